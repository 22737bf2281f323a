/-! TWISTS -/
theorem jrem10 (x : Int32) : jrem x 10 = some (x - x / 10 * 10) := by unfold jrem; rw [if_neg (by decide)]
theorem jdiv10 (x : Int32) : jdiv x 10 = some (x / 10) := by unfold jdiv; rw [if_neg (by decide)]
theorem jrem2 (x : Int32) : jrem x 2 = some (x - x / 2 * 2) := by unfold jrem; rw [if_neg (by decide)]
theorem jdiv2 (x : Int32) : jdiv x 2 = some (x / 2) := by unfold jdiv; rw [if_neg (by decide)]
theorem and1 (y : Int32) : (y &&& 1 = 1) ↔ ¬ (y &&& 1 = 0) := by
  obtain ⟨j, hj, e⟩ := pk_andE y (m := 1) 1 (by decide)
  have h : j = 0 ∨ j = 1 := by omega
  rw [e]
  rcases h with rfl | rfl <;> decide
/-- digit's point -/
def dg (l : Int32) : Int32 := (l - l / 10 * 10) - 1
def tkF (V : Nat) : Nat → Int32 → Int32 → (Nat → Int32) → Bool × Int32 × (Nat → Int32)
  | 0, l, _, g => (true, l, g)
  | m + 1, l, u, g => if hasB (dg l) (nI V) = true ∧ ((u >>> (dg l &&& 31)) &&& 1) = 0 then tkF V m (l / 10) (u ||| (1 <<< (dg l &&& 31))) (upd g m (dg l)) else (false, l, g)
def tkOK (V n : Nat) (x : Int32) : Bool := (tkF V n x 0 (fun _ => 0)).1 && decide ((tkF V n x 0 (fun _ => 0)).2.1 = 0)
def tkP (V n : Nat) (x : Int32) (i : Nat) : Nat := ((tkF V n x 0 (fun _ => 0)).2.2 i).toNatClampNeg
def TwP (V n : Nat) (p : Nat → Nat) : Prop := (∀ i, i < n → p i < V) ∧ ∀ i j, i < n → j < n → p i = p j → i = j
theorem tkF_c {V n : Nat} : ∀ m l u g h, m ≤ n → (∀ i, m ≤ i → i < n → g i = h i) → (tkF V m l u g).1 = (tkF V m l u h).1 ∧ (tkF V m l u g).2.1 = (tkF V m l u h).2.1 ∧ ((tkF V m l u g).1 = true → ∀ i, i < n → (tkF V m l u g).2.2 i = (tkF V m l u h).2.2 i) := by
  intro m
  induction m with
  | zero => intro l u g h _ hg; exact ⟨rfl, rfl, fun _ i hi => hg i (Nat.zero_le _) hi⟩
  | succ m ih =>
    intro l u g h hm hg
    rw [tkF, tkF]
    by_cases hc : hasB (dg l) (nI V) = true ∧ ((u >>> (dg l &&& 31)) &&& 1) = 0
    · rw [if_pos hc, if_pos hc]
      refine ih _ _ _ _ (by omega) (fun i h1 h2 => ?_)
      by_cases hi : i = m
      · rw [hi, up_s, up_s]
      · rw [up_n hi, up_n hi]
        exact hg i (by omega) h2
    · rw [if_neg hc, if_neg hc]
      exact ⟨rfl, rfl, fun h => by cases h⟩
theorem bt_or : ∀ U, U < 256 → ∀ q, q < 8 → (nI U ||| (1 <<< (nI q &&& 31))) = nI (U ||| 2 ^ q) ∧ U ||| 2 ^ q < 256 ∧ ((nI U >>> (nI q &&& 31)) &&& 1) = nI (U / 2 ^ q % 2) := by decide +kernel
theorem bt_or2 : ∀ U, U < 256 → ∀ q, q < 8 → (U ||| 2 ^ q) / 2 ^ q % 2 = 1 ∧ ∀ x, x < 8 → U / 2 ^ x % 2 = 1 → (U ||| 2 ^ q) / 2 ^ x % 2 = 1 := by decide +kernel
theorem tkF_ok {V n : Nat} (hV : V ≤ 8) : ∀ m l u g, m ≤ n → (∃ U, u = nI U ∧ U < 256 ∧ ∃ p : Nat → Nat, (∀ i, m ≤ i → i < n → g i = nI (p i) ∧ p i < V ∧ U / 2 ^ p i % 2 = 1) ∧ ∀ i j, m ≤ i → i < n → m ≤ j → j < n → p i = p j → i = j) → (tkF V m l u g).1 = true → ∃ p : Nat → Nat, TwP V n p ∧ ∀ i, i < n → (tkF V m l u g).2.2 i = nI (p i) := by
  intro m
  induction m with
  | zero =>
    rintro l u g _ ⟨U, _, _, p, h1, h2⟩ _
    exact ⟨p, ⟨fun i hi => (h1 i (Nat.zero_le _) hi).2.1, fun i j hi hj => h2 i j (Nat.zero_le _) hi (Nat.zero_le _) hj⟩, fun i hi => (h1 i (Nat.zero_le _) hi).1⟩
  | succ m ih =>
    rintro l u g hm ⟨U, rfl, hU, p, h1, h2⟩
    rw [tkF]
    by_cases hc : hasB (dg l) (nI V) = true ∧ ((nI U >>> (dg l &&& 31)) &&& 1) = 0
    · rw [if_pos hc]
      obtain ⟨q, hq, e⟩ := (hasB_n (by omega)).mp hc.1
      rw [e] at hc ⊢
      obtain ⟨b1, b2, b3⟩ := bt_or U hU q (by omega)
      obtain ⟨b4, b5⟩ := bt_or2 U hU q (by omega)
      rw [b1]
      have h0 : U / 2 ^ q % 2 = 0 := by
        have := hc.2
        rw [b3] at this
        exact nI_inj (b := 0) (by omega) (by decide) this
      refine ih _ _ _ (by omega) ⟨U ||| 2 ^ q, rfl, b2, fun i => if i = m then q else p i, fun i k1 k2 => ?_, fun i j k1 k2 k3 k4 => ?_⟩
      · by_cases hi : i = m
        · subst hi
          simp only [if_true]
          rw [up_s]
          exact ⟨rfl, hq, b4⟩
        · simp only [hi, if_false]
          rw [up_n hi]
          obtain ⟨a1, a2, a3⟩ := h1 i (by omega) k2
          exact ⟨a1, a2, b5 _ (by omega) a3⟩
      · by_cases hi : i = m
        · by_cases hj : j = m
          · intro _; rw [hi, hj]
          · simp only [hi, hj, if_true, if_false]
            intro h
            have := (h1 j (by omega) k4).2.2
            rw [← h, h0] at this
            cases this
        · by_cases hj : j = m
          · simp only [hi, hj, if_true, if_false]
            intro h
            have := (h1 i (by omega) k2).2.2
            rw [h, h0] at this
            cases this
          · simp only [hi, hj, if_false]
            exact h2 i j (by omega) k2 (by omega) k4
    · rw [if_neg hc]
      intro h
      cases h
theorem tk_all {V n : Nat} (hV : V ≤ 8) (x : Int32) (h : tkOK V n x = true) : TwP V n (tkP V n x) ∧ ∀ g i, i < n → (tkF V n x 0 g).2.2 i = nI (tkP V n x i) := by
  unfold tkOK at h
  rw [Bool.and_eq_true] at h
  obtain ⟨p, hp, e⟩ := tkF_ok (n := n) hV n x 0 (fun _ => 0) (Nat.le_refl _) ⟨0, rfl, by decide, fun _ => 0, fun i h1 h2 => absurd h1 (by omega), fun i j h1 h2 => absurd h1 (by omega)⟩ h.1
  have e2 : ∀ i, i < n → tkP V n x i = p i := fun i hi => by
    unfold tkP
    rw [e i hi, nI_clamp]
    have := hp.1 i hi
    omega
  refine ⟨⟨fun i hi => by rw [e2 i hi]; exact hp.1 i hi, fun i j hi hj => by rw [e2 i hi, e2 j hj]; exact hp.2 i j hi hj⟩, fun g i hi => ?_⟩
  rw [e2 i hi, ← e i hi]
  have hc := tkF_c (V := V) (n := n) n x 0 (fun _ => 0) g (Nat.le_refl _) (fun i h1 h2 => absurd h1 (by omega))
  exact (hc.2.2 h.1 i hi).symm
theorem tk_ok2 (V n : Nat) (x : Int32) (g : Nat → Int32) : ((tkF V n x 0 g).1 && decide ((tkF V n x 0 g).2.1 = 0)) = tkOK V n x := by
  have hc := tkF_c (V := V) (n := n) n x 0 (fun _ => 0) g (Nat.le_refl _) (fun i h1 h2 => absurd h1 (by omega))
  unfold tkOK
  rw [hc.1, hc.2.1]
theorem sub_1 (x : Int32) : x - 1 = x + (-1) := Int32.sub_eq_add_neg x 1
theorem jmin6 {n : Nat} (h : n ≤ 6) : jmin 6 (nI n) = nI n := by
  unfold jmin
  by_cases h6 : n = 6
  · subst h6; rfl
  · have e : nI n < 6 := nI_lt (a := n) (b := 6) (by omega) (by decide)
    rw [if_pos e]
theorem becomeFor33 {S : rSt} {K T : Nat} (hK : K ≤ 3) (hT : T < K) (c1 : S.1 2 1 = nI K) (c2 : S.1 2 2 = nI T) : J_X8_becomeFor 33 2 (Wd S) = some (Wd (si (si S 33 1 (nI (T + 1))) 33 2 (nI (T + K + 1)))) := by
  unfold J_X8_becomeFor
  simp only [Nat.reduceEqDiff, Nat.reduceAdd, Nat.reduceMul, reduceCtorEq, if_true, if_false, bs, rLet_eq, rB2_e, reduceIte, wr_0, wf_0_0, wf_0_1, wf_0_2, wp_0_2, wf_0_3, wf_0_4, wf_0_5, wf_0_6, wf_0_7, wf_0_8, wr_1, wf_1_0, wf_1_1, wf_1_2, wf_1_3, wf_1_4, wr_2, wf_2_0, wp_2_0, wf_2_1, wp_2_1, wf_2_2, wp_2_2, wf_2_3, wp_2_3, wf_2_4, wf_2_5, wr_5, wf_5_0, wf_5_1, wf_5_2, wp_5_2, wf_5_3, wp_5_3, wr_7, wf_7_0, wf_7_1, wf_7_2, wp_7_2, wr_10, wf_10_0, wf_10_1, wf_10_2, wp_10_2, wr_13, wf_13_0, wf_13_1, wf_13_2, wp_13_2, wr_16, wf_16_0, wf_16_1, wf_16_2, wf_16_3, wf_16_4, wr_17, wf_17_0, wp_17_0, wf_17_1, wp_17_1, wf_17_2, wp_17_2, wf_17_3, wp_17_3, wf_17_4, wf_17_5, wr_20, wf_20_0, wf_20_1, wf_20_2, wp_20_2, wf_20_3, wp_20_3, wr_22, wf_22_0, wf_22_1, wf_22_2, wp_22_2, wr_25, wf_25_0, wf_25_1, wf_25_2, wp_25_2, wr_28, wf_28_0, wf_28_1, wf_28_2, wp_28_2, wr_31, wf_31_0, wf_31_1, wf_31_2, wp_31_2, wf_31_3, wp_31_3, wr_33, wf_33_0, wf_33_1, wp_33_1, wf_33_2, wp_33_2, wr_35, wf_35_0, wf_35_1, wp_35_1, wf_35_2, wp_35_2, wf_35_3, wp_35_3, wr_36, wf_36_0, wf_36_1, wp_36_1, wf_36_2, wp_36_2, wr_38, wf_38_0, wp_38_0, wf_38_1, wp_38_1, wf_38_2, wp_38_2, wf_38_3, wp_38_3, wf_38_4, wf_38_5, wf_38_6, wf_38_7, wr_43, wf_43_0, wf_43_1, wp_43_1, wf_43_2, wf_43_3, wf_43_4, wp_43_4, wf_43_5, wp_43_5, wr_48, wf_48_0, wp_48_0, wf_48_1, wp_48_1, wf_48_2, wr_50, wf_50_0, wp_50_0, wf_50_1, wp_50_1, wf_50_2, wr_52, wf_52_0, wp_52_0, wf_52_1, wp_52_1, wf_52_2, wr_54, wf_54_0, wp_54_0, wf_54_1, wp_54_1, wf_54_2, wr_56, wf_56_0, wp_56_0, wf_56_1, wp_56_1, wf_56_2, wr_58, wf_58_0, wp_58_0, wf_58_1, wp_58_1, wf_58_2, wr_60, wf_60_0, wp_60_0, wf_60_1, wp_60_1, wf_60_2, wp_60_2, wf_60_3, wp_60_3, wf_60_4, wf_60_5, wf_60_6, wf_60_7, wf_60_8, wf_60_9, wf_60_10, wf_60_11, wp_60_11, wf_60_12, wf_60_13, wf_60_14, wp_60_14, wf_60_15, wf_60_16, wf_60_17, wp_60_17, wf_60_18, wf_60_19, wp_60_19, wf_60_20, wp_60_20, wf_60_21, wf_60_22, wf_60_23, wp_60_23, wf_60_24, wf_60_25, wf_60_26, wf_60_27, wf_60_28, wf_60_29, wp_60_29, wf_60_30, wf_60_31, wf_60_32, wf_60_33, wf_60_34, wp_60_34, wf_60_35, wf_60_36, wf_60_37, wf_60_38, wp_60_38, wf_60_39, wp_60_39, wf_60_40, wp_60_40, wf_60_41, wp_60_41, Nat.reduceEqDiff, if_true, if_false, reduceIte, ri_i, ri_2, rl_1, rl_l, rl_3, ra_1, ra_2, ra_a, ra_4, rj_1, rj_2, rj_3, rj_j, c1, c2, nI_1, nI_add, jmin6 (show T + K + 1 ≤ 6 by omega)]
theorem blockOf33 {S : rSt} {V K T c : Nat} {p : Nat → Nat} (hk : Ok3 V K T) (h1 : S.1 33 1 = nI (T + 1)) (h2 : S.1 33 2 = nI (T + K + 1)) (hp : ∀ i, i < T + K + 1 → S.2.2.1 34 i = nI (p i)) (hv : ∀ i, i < T + K + 1 → p i < V) (hc : c < 8) : ∃ s, s < 256 ∧ s = rF (fun i s => s ||| 2 ^ p i) (T + K + 1 - 2 * (T + 1)) (2 * (T + 1)) (rF (fun i s => s ||| 2 ^ p (2 * i + c / 2 ^ i % 2)) (T + 1) 0 0) ∧ J_X8_blockOf 33 2 (nI c) (Wd S) = some (S.2.2.1 4 s) := by
  obtain ⟨k1, k2, k3, k4, k5, k6⟩ := hk
  have b0 : ∀ c, c < 8 → ∀ i, i < 3 → ((nI c >>> (nI i &&& 31)) &&& 1) = nI (c / 2 ^ i % 2) := by decide +kernel
  have e0 := nI_refl (n := T + 1) (by omega)
  have e0b := nI_refl (n := T + K + 1) (by omega)
  have e2 : (2 : Int32) = nI 2 := by decide
  have s1 : rF (fun i s => s ||| 2 ^ p (2 * i + c / 2 ^ i % 2)) (T + 1) 0 0 < 256 := rF_inv (fun i s => s ||| 2 ^ p (2 * i + c / 2 ^ i % 2)) (fun _ s => s < 256) (T + 1) 0 0 (by decide) (fun j s _ hj hs => (bt_or s hs _ (by have := hv (2 * j + c / 2 ^ j % 2) (by omega); omega)).2.1)
  have s2 := rF_inv (fun i s => s ||| 2 ^ p i) (fun _ s => s < 256) (T + K + 1 - 2 * (T + 1)) (2 * (T + 1)) _ s1 (fun j s _ hj hs => (bt_or s hs _ (by have := hv j (by omega); omega)).2.1)
  refine ⟨_, s2, rfl, ?_⟩
  have l1 := fun K' => loopF (fun f s i => J_X8_blockOf_5 33 (nI c) (Wd S) K' f (nI s) (nI i)) (fun s => K' (nI s)) (fun i s => s ||| 2 ^ p (2 * i + c / 2 ^ i % 2)) (fun _ s => s < 256) (T + 1) (fun f s _ => by
      rw [J_X8_blockOf_5]
      simp only [Nat.reduceEqDiff, Nat.reduceAdd, Nat.reduceMul, reduceCtorEq, if_true, if_false, bs, rLet_eq, rB2_e, reduceIte, wr_0, wf_0_0, wf_0_1, wf_0_2, wp_0_2, wf_0_3, wf_0_4, wf_0_5, wf_0_6, wf_0_7, wf_0_8, wr_1, wf_1_0, wf_1_1, wf_1_2, wf_1_3, wf_1_4, wr_2, wf_2_0, wp_2_0, wf_2_1, wp_2_1, wf_2_2, wp_2_2, wf_2_3, wp_2_3, wf_2_4, wf_2_5, wr_5, wf_5_0, wf_5_1, wf_5_2, wp_5_2, wf_5_3, wp_5_3, wr_7, wf_7_0, wf_7_1, wf_7_2, wp_7_2, wr_10, wf_10_0, wf_10_1, wf_10_2, wp_10_2, wr_13, wf_13_0, wf_13_1, wf_13_2, wp_13_2, wr_16, wf_16_0, wf_16_1, wf_16_2, wf_16_3, wf_16_4, wr_17, wf_17_0, wp_17_0, wf_17_1, wp_17_1, wf_17_2, wp_17_2, wf_17_3, wp_17_3, wf_17_4, wf_17_5, wr_20, wf_20_0, wf_20_1, wf_20_2, wp_20_2, wf_20_3, wp_20_3, wr_22, wf_22_0, wf_22_1, wf_22_2, wp_22_2, wr_25, wf_25_0, wf_25_1, wf_25_2, wp_25_2, wr_28, wf_28_0, wf_28_1, wf_28_2, wp_28_2, wr_31, wf_31_0, wf_31_1, wf_31_2, wp_31_2, wf_31_3, wp_31_3, wr_33, wf_33_0, wf_33_1, wp_33_1, wf_33_2, wp_33_2, wr_35, wf_35_0, wf_35_1, wp_35_1, wf_35_2, wp_35_2, wf_35_3, wp_35_3, wr_36, wf_36_0, wf_36_1, wp_36_1, wf_36_2, wp_36_2, wr_38, wf_38_0, wp_38_0, wf_38_1, wp_38_1, wf_38_2, wp_38_2, wf_38_3, wp_38_3, wf_38_4, wf_38_5, wf_38_6, wf_38_7, wr_43, wf_43_0, wf_43_1, wp_43_1, wf_43_2, wf_43_3, wf_43_4, wp_43_4, wf_43_5, wp_43_5, wr_48, wf_48_0, wp_48_0, wf_48_1, wp_48_1, wf_48_2, wr_50, wf_50_0, wp_50_0, wf_50_1, wp_50_1, wf_50_2, wr_52, wf_52_0, wp_52_0, wf_52_1, wp_52_1, wf_52_2, wr_54, wf_54_0, wp_54_0, wf_54_1, wp_54_1, wf_54_2, wr_56, wf_56_0, wp_56_0, wf_56_1, wp_56_1, wf_56_2, wr_58, wf_58_0, wp_58_0, wf_58_1, wp_58_1, wf_58_2, wr_60, wf_60_0, wp_60_0, wf_60_1, wp_60_1, wf_60_2, wp_60_2, wf_60_3, wp_60_3, wf_60_4, wf_60_5, wf_60_6, wf_60_7, wf_60_8, wf_60_9, wf_60_10, wf_60_11, wp_60_11, wf_60_12, wf_60_13, wf_60_14, wp_60_14, wf_60_15, wf_60_16, wf_60_17, wp_60_17, wf_60_18, wf_60_19, wp_60_19, wf_60_20, wp_60_20, wf_60_21, wf_60_22, wf_60_23, wp_60_23, wf_60_24, wf_60_25, wf_60_26, wf_60_27, wf_60_28, wf_60_29, wp_60_29, wf_60_30, wf_60_31, wf_60_32, wf_60_33, wf_60_34, wp_60_34, wf_60_35, wf_60_36, wf_60_37, wf_60_38, wp_60_38, wf_60_39, wp_60_39, wf_60_40, wp_60_40, wf_60_41, wp_60_41, h1, e0]) (fun f s i hi hs => by
      have e1 : (nI (T + 1) ≤ nI i) ↔ False := iff_false_intro (nI_ge hi (by omega))
      have e3 := b0 c hc i (by omega)
      have e4 : (2 * nI i) + nI (c / 2 ^ i % 2) = nI (2 * i + c / 2 ^ i % 2) := by rw [e2, pk_mul, nI_add]
      have e5 := hp (2 * i + c / 2 ^ i % 2) (by omega)
      have e6 := (bt_or s hs (p (2 * i + c / 2 ^ i % 2)) (by have := hv (2 * i + c / 2 ^ i % 2) (by omega); omega)).1
      rw [J_X8_blockOf_5]
      simp (disch := omega) only [Nat.reduceEqDiff, Nat.reduceAdd, Nat.reduceMul, reduceCtorEq, if_true, if_false, bs, rLet_eq, rB2_e, reduceIte, wr_0, wf_0_0, wf_0_1, wf_0_2, wp_0_2, wf_0_3, wf_0_4, wf_0_5, wf_0_6, wf_0_7, wf_0_8, wr_1, wf_1_0, wf_1_1, wf_1_2, wf_1_3, wf_1_4, wr_2, wf_2_0, wp_2_0, wf_2_1, wp_2_1, wf_2_2, wp_2_2, wf_2_3, wp_2_3, wf_2_4, wf_2_5, wr_5, wf_5_0, wf_5_1, wf_5_2, wp_5_2, wf_5_3, wp_5_3, wr_7, wf_7_0, wf_7_1, wf_7_2, wp_7_2, wr_10, wf_10_0, wf_10_1, wf_10_2, wp_10_2, wr_13, wf_13_0, wf_13_1, wf_13_2, wp_13_2, wr_16, wf_16_0, wf_16_1, wf_16_2, wf_16_3, wf_16_4, wr_17, wf_17_0, wp_17_0, wf_17_1, wp_17_1, wf_17_2, wp_17_2, wf_17_3, wp_17_3, wf_17_4, wf_17_5, wr_20, wf_20_0, wf_20_1, wf_20_2, wp_20_2, wf_20_3, wp_20_3, wr_22, wf_22_0, wf_22_1, wf_22_2, wp_22_2, wr_25, wf_25_0, wf_25_1, wf_25_2, wp_25_2, wr_28, wf_28_0, wf_28_1, wf_28_2, wp_28_2, wr_31, wf_31_0, wf_31_1, wf_31_2, wp_31_2, wf_31_3, wp_31_3, wr_33, wf_33_0, wf_33_1, wp_33_1, wf_33_2, wp_33_2, wr_35, wf_35_0, wf_35_1, wp_35_1, wf_35_2, wp_35_2, wf_35_3, wp_35_3, wr_36, wf_36_0, wf_36_1, wp_36_1, wf_36_2, wp_36_2, wr_38, wf_38_0, wp_38_0, wf_38_1, wp_38_1, wf_38_2, wp_38_2, wf_38_3, wp_38_3, wf_38_4, wf_38_5, wf_38_6, wf_38_7, wr_43, wf_43_0, wf_43_1, wp_43_1, wf_43_2, wf_43_3, wf_43_4, wp_43_4, wf_43_5, wp_43_5, wr_48, wf_48_0, wp_48_0, wf_48_1, wp_48_1, wf_48_2, wr_50, wf_50_0, wp_50_0, wf_50_1, wp_50_1, wf_50_2, wr_52, wf_52_0, wp_52_0, wf_52_1, wp_52_1, wf_52_2, wr_54, wf_54_0, wp_54_0, wf_54_1, wp_54_1, wf_54_2, wr_56, wf_56_0, wp_56_0, wf_56_1, wp_56_1, wf_56_2, wr_58, wf_58_0, wp_58_0, wf_58_1, wp_58_1, wf_58_2, wr_60, wf_60_0, wp_60_0, wf_60_1, wp_60_1, wf_60_2, wp_60_2, wf_60_3, wp_60_3, wf_60_4, wf_60_5, wf_60_6, wf_60_7, wf_60_8, wf_60_9, wf_60_10, wf_60_11, wp_60_11, wf_60_12, wf_60_13, wf_60_14, wp_60_14, wf_60_15, wf_60_16, wf_60_17, wp_60_17, wf_60_18, wf_60_19, wp_60_19, wf_60_20, wp_60_20, wf_60_21, wf_60_22, wf_60_23, wp_60_23, wf_60_24, wf_60_25, wf_60_26, wf_60_27, wf_60_28, wf_60_29, wp_60_29, wf_60_30, wf_60_31, wf_60_32, wf_60_33, wf_60_34, wp_60_34, wf_60_35, wf_60_36, wf_60_37, wf_60_38, wp_60_38, wf_60_39, wp_60_39, wf_60_40, wp_60_40, wf_60_41, wp_60_41, wa_3, wt_3, wa_4, wt_4, wa_6, wt_6, wa_8, wt_8, wa_9, wt_9, wa_11, wt_11, wa_12, wt_12, wa_14, wt_14, wa_15, wt_15, wa_18, wt_18, wa_19, wt_19, wa_21, wt_21, wa_23, wt_23, wa_24, wt_24, wa_26, wt_26, wa_27, wt_27, wa_29, wt_29, wa_30, wt_30, wa_32, wt_32, wa_34, wt_34, wa_37, wt_37, wa_39, wt_39, wa_40, wt_40, wa_41, wt_41, wa_42, wt_42, wa_44, wt_44, wa_45, wt_45, wa_46, wt_46, wa_49, wt_49, wa_51, wt_51, wa_53, wt_53, wa_55, wt_55, wa_57, wt_57, wa_59, wt_59, wa_61, wt_61, wa_62, wt_62, wa_63, wt_63, wa_64, wt_64, wa_65, wt_65, wa_66, wt_66, wa_67, wt_67, wa_68, wt_68, wa_69, wt_69, wa_70, wt_70, wa_71, wt_71, wa_72, wt_72, wa_73, wt_73, wa_74, wt_74, wa_75, wt_75, wa_76, wt_76, wa_77, wt_77, wa_78, wt_78, wa_79, wt_79, wa_80, wt_80, wa_81, wt_81, wa_82, wt_82, wa_83, wt_83, wa_84, wt_84, wa_85, wt_85, wa_86, wt_86, wl_47, h1, e1, e3, e4, e5, e6, nI_1]) (fun s i hi hs => (bt_or s hs _ (by have := hv (2 * i + c / 2 ^ i % 2) (by omega); omega)).2.1) (T + 1) 2000 0 0 (by omega) (by omega) (by decide)
  have l2 := fun K' => loopF (fun f s i => J_X8_blockOf_49 33 (Wd S) K' f (nI s) (nI i)) (fun s => K' (nI s)) (fun i s => s ||| 2 ^ p i) (fun _ s => s < 256) (T + K + 1) (fun f s _ => by
      rw [J_X8_blockOf_49]
      simp only [Nat.reduceEqDiff, Nat.reduceAdd, Nat.reduceMul, reduceCtorEq, if_true, if_false, bs, rLet_eq, rB2_e, reduceIte, wr_0, wf_0_0, wf_0_1, wf_0_2, wp_0_2, wf_0_3, wf_0_4, wf_0_5, wf_0_6, wf_0_7, wf_0_8, wr_1, wf_1_0, wf_1_1, wf_1_2, wf_1_3, wf_1_4, wr_2, wf_2_0, wp_2_0, wf_2_1, wp_2_1, wf_2_2, wp_2_2, wf_2_3, wp_2_3, wf_2_4, wf_2_5, wr_5, wf_5_0, wf_5_1, wf_5_2, wp_5_2, wf_5_3, wp_5_3, wr_7, wf_7_0, wf_7_1, wf_7_2, wp_7_2, wr_10, wf_10_0, wf_10_1, wf_10_2, wp_10_2, wr_13, wf_13_0, wf_13_1, wf_13_2, wp_13_2, wr_16, wf_16_0, wf_16_1, wf_16_2, wf_16_3, wf_16_4, wr_17, wf_17_0, wp_17_0, wf_17_1, wp_17_1, wf_17_2, wp_17_2, wf_17_3, wp_17_3, wf_17_4, wf_17_5, wr_20, wf_20_0, wf_20_1, wf_20_2, wp_20_2, wf_20_3, wp_20_3, wr_22, wf_22_0, wf_22_1, wf_22_2, wp_22_2, wr_25, wf_25_0, wf_25_1, wf_25_2, wp_25_2, wr_28, wf_28_0, wf_28_1, wf_28_2, wp_28_2, wr_31, wf_31_0, wf_31_1, wf_31_2, wp_31_2, wf_31_3, wp_31_3, wr_33, wf_33_0, wf_33_1, wp_33_1, wf_33_2, wp_33_2, wr_35, wf_35_0, wf_35_1, wp_35_1, wf_35_2, wp_35_2, wf_35_3, wp_35_3, wr_36, wf_36_0, wf_36_1, wp_36_1, wf_36_2, wp_36_2, wr_38, wf_38_0, wp_38_0, wf_38_1, wp_38_1, wf_38_2, wp_38_2, wf_38_3, wp_38_3, wf_38_4, wf_38_5, wf_38_6, wf_38_7, wr_43, wf_43_0, wf_43_1, wp_43_1, wf_43_2, wf_43_3, wf_43_4, wp_43_4, wf_43_5, wp_43_5, wr_48, wf_48_0, wp_48_0, wf_48_1, wp_48_1, wf_48_2, wr_50, wf_50_0, wp_50_0, wf_50_1, wp_50_1, wf_50_2, wr_52, wf_52_0, wp_52_0, wf_52_1, wp_52_1, wf_52_2, wr_54, wf_54_0, wp_54_0, wf_54_1, wp_54_1, wf_54_2, wr_56, wf_56_0, wp_56_0, wf_56_1, wp_56_1, wf_56_2, wr_58, wf_58_0, wp_58_0, wf_58_1, wp_58_1, wf_58_2, wr_60, wf_60_0, wp_60_0, wf_60_1, wp_60_1, wf_60_2, wp_60_2, wf_60_3, wp_60_3, wf_60_4, wf_60_5, wf_60_6, wf_60_7, wf_60_8, wf_60_9, wf_60_10, wf_60_11, wp_60_11, wf_60_12, wf_60_13, wf_60_14, wp_60_14, wf_60_15, wf_60_16, wf_60_17, wp_60_17, wf_60_18, wf_60_19, wp_60_19, wf_60_20, wp_60_20, wf_60_21, wf_60_22, wf_60_23, wp_60_23, wf_60_24, wf_60_25, wf_60_26, wf_60_27, wf_60_28, wf_60_29, wp_60_29, wf_60_30, wf_60_31, wf_60_32, wf_60_33, wf_60_34, wp_60_34, wf_60_35, wf_60_36, wf_60_37, wf_60_38, wp_60_38, wf_60_39, wp_60_39, wf_60_40, wp_60_40, wf_60_41, wp_60_41, h2, e0b]) (fun f s i hi hs => by
      have e1 : (nI (T + K + 1) ≤ nI i) ↔ False := iff_false_intro (nI_ge hi (by omega))
      have e5 := hp i hi
      have e6 := (bt_or s hs (p i) (by have := hv i hi; omega)).1
      rw [J_X8_blockOf_49]
      simp (disch := omega) only [Nat.reduceEqDiff, Nat.reduceAdd, Nat.reduceMul, reduceCtorEq, if_true, if_false, bs, rLet_eq, rB2_e, reduceIte, wr_0, wf_0_0, wf_0_1, wf_0_2, wp_0_2, wf_0_3, wf_0_4, wf_0_5, wf_0_6, wf_0_7, wf_0_8, wr_1, wf_1_0, wf_1_1, wf_1_2, wf_1_3, wf_1_4, wr_2, wf_2_0, wp_2_0, wf_2_1, wp_2_1, wf_2_2, wp_2_2, wf_2_3, wp_2_3, wf_2_4, wf_2_5, wr_5, wf_5_0, wf_5_1, wf_5_2, wp_5_2, wf_5_3, wp_5_3, wr_7, wf_7_0, wf_7_1, wf_7_2, wp_7_2, wr_10, wf_10_0, wf_10_1, wf_10_2, wp_10_2, wr_13, wf_13_0, wf_13_1, wf_13_2, wp_13_2, wr_16, wf_16_0, wf_16_1, wf_16_2, wf_16_3, wf_16_4, wr_17, wf_17_0, wp_17_0, wf_17_1, wp_17_1, wf_17_2, wp_17_2, wf_17_3, wp_17_3, wf_17_4, wf_17_5, wr_20, wf_20_0, wf_20_1, wf_20_2, wp_20_2, wf_20_3, wp_20_3, wr_22, wf_22_0, wf_22_1, wf_22_2, wp_22_2, wr_25, wf_25_0, wf_25_1, wf_25_2, wp_25_2, wr_28, wf_28_0, wf_28_1, wf_28_2, wp_28_2, wr_31, wf_31_0, wf_31_1, wf_31_2, wp_31_2, wf_31_3, wp_31_3, wr_33, wf_33_0, wf_33_1, wp_33_1, wf_33_2, wp_33_2, wr_35, wf_35_0, wf_35_1, wp_35_1, wf_35_2, wp_35_2, wf_35_3, wp_35_3, wr_36, wf_36_0, wf_36_1, wp_36_1, wf_36_2, wp_36_2, wr_38, wf_38_0, wp_38_0, wf_38_1, wp_38_1, wf_38_2, wp_38_2, wf_38_3, wp_38_3, wf_38_4, wf_38_5, wf_38_6, wf_38_7, wr_43, wf_43_0, wf_43_1, wp_43_1, wf_43_2, wf_43_3, wf_43_4, wp_43_4, wf_43_5, wp_43_5, wr_48, wf_48_0, wp_48_0, wf_48_1, wp_48_1, wf_48_2, wr_50, wf_50_0, wp_50_0, wf_50_1, wp_50_1, wf_50_2, wr_52, wf_52_0, wp_52_0, wf_52_1, wp_52_1, wf_52_2, wr_54, wf_54_0, wp_54_0, wf_54_1, wp_54_1, wf_54_2, wr_56, wf_56_0, wp_56_0, wf_56_1, wp_56_1, wf_56_2, wr_58, wf_58_0, wp_58_0, wf_58_1, wp_58_1, wf_58_2, wr_60, wf_60_0, wp_60_0, wf_60_1, wp_60_1, wf_60_2, wp_60_2, wf_60_3, wp_60_3, wf_60_4, wf_60_5, wf_60_6, wf_60_7, wf_60_8, wf_60_9, wf_60_10, wf_60_11, wp_60_11, wf_60_12, wf_60_13, wf_60_14, wp_60_14, wf_60_15, wf_60_16, wf_60_17, wp_60_17, wf_60_18, wf_60_19, wp_60_19, wf_60_20, wp_60_20, wf_60_21, wf_60_22, wf_60_23, wp_60_23, wf_60_24, wf_60_25, wf_60_26, wf_60_27, wf_60_28, wf_60_29, wp_60_29, wf_60_30, wf_60_31, wf_60_32, wf_60_33, wf_60_34, wp_60_34, wf_60_35, wf_60_36, wf_60_37, wf_60_38, wp_60_38, wf_60_39, wp_60_39, wf_60_40, wp_60_40, wf_60_41, wp_60_41, wa_3, wt_3, wa_4, wt_4, wa_6, wt_6, wa_8, wt_8, wa_9, wt_9, wa_11, wt_11, wa_12, wt_12, wa_14, wt_14, wa_15, wt_15, wa_18, wt_18, wa_19, wt_19, wa_21, wt_21, wa_23, wt_23, wa_24, wt_24, wa_26, wt_26, wa_27, wt_27, wa_29, wt_29, wa_30, wt_30, wa_32, wt_32, wa_34, wt_34, wa_37, wt_37, wa_39, wt_39, wa_40, wt_40, wa_41, wt_41, wa_42, wt_42, wa_44, wt_44, wa_45, wt_45, wa_46, wt_46, wa_49, wt_49, wa_51, wt_51, wa_53, wt_53, wa_55, wt_55, wa_57, wt_57, wa_59, wt_59, wa_61, wt_61, wa_62, wt_62, wa_63, wt_63, wa_64, wt_64, wa_65, wt_65, wa_66, wt_66, wa_67, wt_67, wa_68, wt_68, wa_69, wt_69, wa_70, wt_70, wa_71, wt_71, wa_72, wt_72, wa_73, wt_73, wa_74, wt_74, wa_75, wt_75, wa_76, wt_76, wa_77, wt_77, wa_78, wt_78, wa_79, wt_79, wa_80, wt_80, wa_81, wt_81, wa_82, wt_82, wa_83, wt_83, wa_84, wt_84, wa_85, wt_85, wa_86, wt_86, wl_47, h2, e1, e5, e6, nI_1]) (fun s i hi hs => (bt_or s hs _ (by have := hv i hi; omega)).2.1) (T + K + 1 - 2 * (T + 1)) 2000 _ (2 * (T + 1)) (by omega) (by omega) s1
  have e7 : (2 : Int32) * nI (T + 1) = nI (2 * (T + 1)) := by rw [e2, pk_mul]
  unfold J_X8_blockOf
  simp only [nI_0] at l1
  simp only [rLet_eq, wr_33, l1, wf_33_1, h1, bs, e7, l2, numberOf2 s2]
theorem choices33 {S : rSt} {T : Nat} (hT : T < 3) (h1 : S.1 33 1 = nI (T + 1)) : J_X8_choices 33 (Wd S) = some (nI (2 ^ (T + 1))) := by
  unfold J_X8_choices
  simp only [Nat.reduceEqDiff, Nat.reduceAdd, Nat.reduceMul, reduceCtorEq, if_true, if_false, bs, rLet_eq, rB2_e, reduceIte, wr_0, wf_0_0, wf_0_1, wf_0_2, wp_0_2, wf_0_3, wf_0_4, wf_0_5, wf_0_6, wf_0_7, wf_0_8, wr_1, wf_1_0, wf_1_1, wf_1_2, wf_1_3, wf_1_4, wr_2, wf_2_0, wp_2_0, wf_2_1, wp_2_1, wf_2_2, wp_2_2, wf_2_3, wp_2_3, wf_2_4, wf_2_5, wr_5, wf_5_0, wf_5_1, wf_5_2, wp_5_2, wf_5_3, wp_5_3, wr_7, wf_7_0, wf_7_1, wf_7_2, wp_7_2, wr_10, wf_10_0, wf_10_1, wf_10_2, wp_10_2, wr_13, wf_13_0, wf_13_1, wf_13_2, wp_13_2, wr_16, wf_16_0, wf_16_1, wf_16_2, wf_16_3, wf_16_4, wr_17, wf_17_0, wp_17_0, wf_17_1, wp_17_1, wf_17_2, wp_17_2, wf_17_3, wp_17_3, wf_17_4, wf_17_5, wr_20, wf_20_0, wf_20_1, wf_20_2, wp_20_2, wf_20_3, wp_20_3, wr_22, wf_22_0, wf_22_1, wf_22_2, wp_22_2, wr_25, wf_25_0, wf_25_1, wf_25_2, wp_25_2, wr_28, wf_28_0, wf_28_1, wf_28_2, wp_28_2, wr_31, wf_31_0, wf_31_1, wf_31_2, wp_31_2, wf_31_3, wp_31_3, wr_33, wf_33_0, wf_33_1, wp_33_1, wf_33_2, wp_33_2, wr_35, wf_35_0, wf_35_1, wp_35_1, wf_35_2, wp_35_2, wf_35_3, wp_35_3, wr_36, wf_36_0, wf_36_1, wp_36_1, wf_36_2, wp_36_2, wr_38, wf_38_0, wp_38_0, wf_38_1, wp_38_1, wf_38_2, wp_38_2, wf_38_3, wp_38_3, wf_38_4, wf_38_5, wf_38_6, wf_38_7, wr_43, wf_43_0, wf_43_1, wp_43_1, wf_43_2, wf_43_3, wf_43_4, wp_43_4, wf_43_5, wp_43_5, wr_48, wf_48_0, wp_48_0, wf_48_1, wp_48_1, wf_48_2, wr_50, wf_50_0, wp_50_0, wf_50_1, wp_50_1, wf_50_2, wr_52, wf_52_0, wp_52_0, wf_52_1, wp_52_1, wf_52_2, wr_54, wf_54_0, wp_54_0, wf_54_1, wp_54_1, wf_54_2, wr_56, wf_56_0, wp_56_0, wf_56_1, wp_56_1, wf_56_2, wr_58, wf_58_0, wp_58_0, wf_58_1, wp_58_1, wf_58_2, wr_60, wf_60_0, wp_60_0, wf_60_1, wp_60_1, wf_60_2, wp_60_2, wf_60_3, wp_60_3, wf_60_4, wf_60_5, wf_60_6, wf_60_7, wf_60_8, wf_60_9, wf_60_10, wf_60_11, wp_60_11, wf_60_12, wf_60_13, wf_60_14, wp_60_14, wf_60_15, wf_60_16, wf_60_17, wp_60_17, wf_60_18, wf_60_19, wp_60_19, wf_60_20, wp_60_20, wf_60_21, wf_60_22, wf_60_23, wp_60_23, wf_60_24, wf_60_25, wf_60_26, wf_60_27, wf_60_28, wf_60_29, wp_60_29, wf_60_30, wf_60_31, wf_60_32, wf_60_33, wf_60_34, wp_60_34, wf_60_35, wf_60_36, wf_60_37, wf_60_38, wp_60_38, wf_60_39, wp_60_39, wf_60_40, wp_60_40, wf_60_41, wp_60_41, h1, shl1 (T + 1) (by omega)]
theorem becomeFor36 {S : rSt} {K T : Nat} (hK : K ≤ 3) (hT : T < K) (c1 : S.1 2 1 = nI K) (c2 : S.1 2 2 = nI T) : J_X8_becomeFor 36 2 (Wd S) = some (Wd (si (si S 36 1 (nI (T + 1))) 36 2 (nI (T + K + 1)))) := by
  unfold J_X8_becomeFor
  simp only [Nat.reduceEqDiff, Nat.reduceAdd, Nat.reduceMul, reduceCtorEq, if_true, if_false, bs, rLet_eq, rB2_e, reduceIte, wr_0, wf_0_0, wf_0_1, wf_0_2, wp_0_2, wf_0_3, wf_0_4, wf_0_5, wf_0_6, wf_0_7, wf_0_8, wr_1, wf_1_0, wf_1_1, wf_1_2, wf_1_3, wf_1_4, wr_2, wf_2_0, wp_2_0, wf_2_1, wp_2_1, wf_2_2, wp_2_2, wf_2_3, wp_2_3, wf_2_4, wf_2_5, wr_5, wf_5_0, wf_5_1, wf_5_2, wp_5_2, wf_5_3, wp_5_3, wr_7, wf_7_0, wf_7_1, wf_7_2, wp_7_2, wr_10, wf_10_0, wf_10_1, wf_10_2, wp_10_2, wr_13, wf_13_0, wf_13_1, wf_13_2, wp_13_2, wr_16, wf_16_0, wf_16_1, wf_16_2, wf_16_3, wf_16_4, wr_17, wf_17_0, wp_17_0, wf_17_1, wp_17_1, wf_17_2, wp_17_2, wf_17_3, wp_17_3, wf_17_4, wf_17_5, wr_20, wf_20_0, wf_20_1, wf_20_2, wp_20_2, wf_20_3, wp_20_3, wr_22, wf_22_0, wf_22_1, wf_22_2, wp_22_2, wr_25, wf_25_0, wf_25_1, wf_25_2, wp_25_2, wr_28, wf_28_0, wf_28_1, wf_28_2, wp_28_2, wr_31, wf_31_0, wf_31_1, wf_31_2, wp_31_2, wf_31_3, wp_31_3, wr_33, wf_33_0, wf_33_1, wp_33_1, wf_33_2, wp_33_2, wr_35, wf_35_0, wf_35_1, wp_35_1, wf_35_2, wp_35_2, wf_35_3, wp_35_3, wr_36, wf_36_0, wf_36_1, wp_36_1, wf_36_2, wp_36_2, wr_38, wf_38_0, wp_38_0, wf_38_1, wp_38_1, wf_38_2, wp_38_2, wf_38_3, wp_38_3, wf_38_4, wf_38_5, wf_38_6, wf_38_7, wr_43, wf_43_0, wf_43_1, wp_43_1, wf_43_2, wf_43_3, wf_43_4, wp_43_4, wf_43_5, wp_43_5, wr_48, wf_48_0, wp_48_0, wf_48_1, wp_48_1, wf_48_2, wr_50, wf_50_0, wp_50_0, wf_50_1, wp_50_1, wf_50_2, wr_52, wf_52_0, wp_52_0, wf_52_1, wp_52_1, wf_52_2, wr_54, wf_54_0, wp_54_0, wf_54_1, wp_54_1, wf_54_2, wr_56, wf_56_0, wp_56_0, wf_56_1, wp_56_1, wf_56_2, wr_58, wf_58_0, wp_58_0, wf_58_1, wp_58_1, wf_58_2, wr_60, wf_60_0, wp_60_0, wf_60_1, wp_60_1, wf_60_2, wp_60_2, wf_60_3, wp_60_3, wf_60_4, wf_60_5, wf_60_6, wf_60_7, wf_60_8, wf_60_9, wf_60_10, wf_60_11, wp_60_11, wf_60_12, wf_60_13, wf_60_14, wp_60_14, wf_60_15, wf_60_16, wf_60_17, wp_60_17, wf_60_18, wf_60_19, wp_60_19, wf_60_20, wp_60_20, wf_60_21, wf_60_22, wf_60_23, wp_60_23, wf_60_24, wf_60_25, wf_60_26, wf_60_27, wf_60_28, wf_60_29, wp_60_29, wf_60_30, wf_60_31, wf_60_32, wf_60_33, wf_60_34, wp_60_34, wf_60_35, wf_60_36, wf_60_37, wf_60_38, wp_60_38, wf_60_39, wp_60_39, wf_60_40, wp_60_40, wf_60_41, wp_60_41, Nat.reduceEqDiff, if_true, if_false, reduceIte, ri_i, ri_2, rl_1, rl_l, rl_3, ra_1, ra_2, ra_a, ra_4, rj_1, rj_2, rj_3, rj_j, c1, c2, nI_1, nI_add, jmin6 (show T + K + 1 ≤ 6 by omega)]
theorem blockOf36 {S : rSt} {V K T c : Nat} {p : Nat → Nat} (hk : Ok3 V K T) (h1 : S.1 36 1 = nI (T + 1)) (h2 : S.1 36 2 = nI (T + K + 1)) (hp : ∀ i, i < T + K + 1 → S.2.2.1 37 i = nI (p i)) (hv : ∀ i, i < T + K + 1 → p i < V) (hc : c < 8) : ∃ s, s < 256 ∧ s = rF (fun i s => s ||| 2 ^ p i) (T + K + 1 - 2 * (T + 1)) (2 * (T + 1)) (rF (fun i s => s ||| 2 ^ p (2 * i + c / 2 ^ i % 2)) (T + 1) 0 0) ∧ J_X8_blockOf 36 2 (nI c) (Wd S) = some (S.2.2.1 4 s) := by
  obtain ⟨k1, k2, k3, k4, k5, k6⟩ := hk
  have b0 : ∀ c, c < 8 → ∀ i, i < 3 → ((nI c >>> (nI i &&& 31)) &&& 1) = nI (c / 2 ^ i % 2) := by decide +kernel
  have e0 := nI_refl (n := T + 1) (by omega)
  have e0b := nI_refl (n := T + K + 1) (by omega)
  have e2 : (2 : Int32) = nI 2 := by decide
  have s1 : rF (fun i s => s ||| 2 ^ p (2 * i + c / 2 ^ i % 2)) (T + 1) 0 0 < 256 := rF_inv (fun i s => s ||| 2 ^ p (2 * i + c / 2 ^ i % 2)) (fun _ s => s < 256) (T + 1) 0 0 (by decide) (fun j s _ hj hs => (bt_or s hs _ (by have := hv (2 * j + c / 2 ^ j % 2) (by omega); omega)).2.1)
  have s2 := rF_inv (fun i s => s ||| 2 ^ p i) (fun _ s => s < 256) (T + K + 1 - 2 * (T + 1)) (2 * (T + 1)) _ s1 (fun j s _ hj hs => (bt_or s hs _ (by have := hv j (by omega); omega)).2.1)
  refine ⟨_, s2, rfl, ?_⟩
  have l1 := fun K' => loopF (fun f s i => J_X8_blockOf_5 36 (nI c) (Wd S) K' f (nI s) (nI i)) (fun s => K' (nI s)) (fun i s => s ||| 2 ^ p (2 * i + c / 2 ^ i % 2)) (fun _ s => s < 256) (T + 1) (fun f s _ => by
      rw [J_X8_blockOf_5]
      simp only [Nat.reduceEqDiff, Nat.reduceAdd, Nat.reduceMul, reduceCtorEq, if_true, if_false, bs, rLet_eq, rB2_e, reduceIte, wr_0, wf_0_0, wf_0_1, wf_0_2, wp_0_2, wf_0_3, wf_0_4, wf_0_5, wf_0_6, wf_0_7, wf_0_8, wr_1, wf_1_0, wf_1_1, wf_1_2, wf_1_3, wf_1_4, wr_2, wf_2_0, wp_2_0, wf_2_1, wp_2_1, wf_2_2, wp_2_2, wf_2_3, wp_2_3, wf_2_4, wf_2_5, wr_5, wf_5_0, wf_5_1, wf_5_2, wp_5_2, wf_5_3, wp_5_3, wr_7, wf_7_0, wf_7_1, wf_7_2, wp_7_2, wr_10, wf_10_0, wf_10_1, wf_10_2, wp_10_2, wr_13, wf_13_0, wf_13_1, wf_13_2, wp_13_2, wr_16, wf_16_0, wf_16_1, wf_16_2, wf_16_3, wf_16_4, wr_17, wf_17_0, wp_17_0, wf_17_1, wp_17_1, wf_17_2, wp_17_2, wf_17_3, wp_17_3, wf_17_4, wf_17_5, wr_20, wf_20_0, wf_20_1, wf_20_2, wp_20_2, wf_20_3, wp_20_3, wr_22, wf_22_0, wf_22_1, wf_22_2, wp_22_2, wr_25, wf_25_0, wf_25_1, wf_25_2, wp_25_2, wr_28, wf_28_0, wf_28_1, wf_28_2, wp_28_2, wr_31, wf_31_0, wf_31_1, wf_31_2, wp_31_2, wf_31_3, wp_31_3, wr_33, wf_33_0, wf_33_1, wp_33_1, wf_33_2, wp_33_2, wr_35, wf_35_0, wf_35_1, wp_35_1, wf_35_2, wp_35_2, wf_35_3, wp_35_3, wr_36, wf_36_0, wf_36_1, wp_36_1, wf_36_2, wp_36_2, wr_38, wf_38_0, wp_38_0, wf_38_1, wp_38_1, wf_38_2, wp_38_2, wf_38_3, wp_38_3, wf_38_4, wf_38_5, wf_38_6, wf_38_7, wr_43, wf_43_0, wf_43_1, wp_43_1, wf_43_2, wf_43_3, wf_43_4, wp_43_4, wf_43_5, wp_43_5, wr_48, wf_48_0, wp_48_0, wf_48_1, wp_48_1, wf_48_2, wr_50, wf_50_0, wp_50_0, wf_50_1, wp_50_1, wf_50_2, wr_52, wf_52_0, wp_52_0, wf_52_1, wp_52_1, wf_52_2, wr_54, wf_54_0, wp_54_0, wf_54_1, wp_54_1, wf_54_2, wr_56, wf_56_0, wp_56_0, wf_56_1, wp_56_1, wf_56_2, wr_58, wf_58_0, wp_58_0, wf_58_1, wp_58_1, wf_58_2, wr_60, wf_60_0, wp_60_0, wf_60_1, wp_60_1, wf_60_2, wp_60_2, wf_60_3, wp_60_3, wf_60_4, wf_60_5, wf_60_6, wf_60_7, wf_60_8, wf_60_9, wf_60_10, wf_60_11, wp_60_11, wf_60_12, wf_60_13, wf_60_14, wp_60_14, wf_60_15, wf_60_16, wf_60_17, wp_60_17, wf_60_18, wf_60_19, wp_60_19, wf_60_20, wp_60_20, wf_60_21, wf_60_22, wf_60_23, wp_60_23, wf_60_24, wf_60_25, wf_60_26, wf_60_27, wf_60_28, wf_60_29, wp_60_29, wf_60_30, wf_60_31, wf_60_32, wf_60_33, wf_60_34, wp_60_34, wf_60_35, wf_60_36, wf_60_37, wf_60_38, wp_60_38, wf_60_39, wp_60_39, wf_60_40, wp_60_40, wf_60_41, wp_60_41, h1, e0]) (fun f s i hi hs => by
      have e1 : (nI (T + 1) ≤ nI i) ↔ False := iff_false_intro (nI_ge hi (by omega))
      have e3 := b0 c hc i (by omega)
      have e4 : (2 * nI i) + nI (c / 2 ^ i % 2) = nI (2 * i + c / 2 ^ i % 2) := by rw [e2, pk_mul, nI_add]
      have e5 := hp (2 * i + c / 2 ^ i % 2) (by omega)
      have e6 := (bt_or s hs (p (2 * i + c / 2 ^ i % 2)) (by have := hv (2 * i + c / 2 ^ i % 2) (by omega); omega)).1
      rw [J_X8_blockOf_5]
      simp (disch := omega) only [Nat.reduceEqDiff, Nat.reduceAdd, Nat.reduceMul, reduceCtorEq, if_true, if_false, bs, rLet_eq, rB2_e, reduceIte, wr_0, wf_0_0, wf_0_1, wf_0_2, wp_0_2, wf_0_3, wf_0_4, wf_0_5, wf_0_6, wf_0_7, wf_0_8, wr_1, wf_1_0, wf_1_1, wf_1_2, wf_1_3, wf_1_4, wr_2, wf_2_0, wp_2_0, wf_2_1, wp_2_1, wf_2_2, wp_2_2, wf_2_3, wp_2_3, wf_2_4, wf_2_5, wr_5, wf_5_0, wf_5_1, wf_5_2, wp_5_2, wf_5_3, wp_5_3, wr_7, wf_7_0, wf_7_1, wf_7_2, wp_7_2, wr_10, wf_10_0, wf_10_1, wf_10_2, wp_10_2, wr_13, wf_13_0, wf_13_1, wf_13_2, wp_13_2, wr_16, wf_16_0, wf_16_1, wf_16_2, wf_16_3, wf_16_4, wr_17, wf_17_0, wp_17_0, wf_17_1, wp_17_1, wf_17_2, wp_17_2, wf_17_3, wp_17_3, wf_17_4, wf_17_5, wr_20, wf_20_0, wf_20_1, wf_20_2, wp_20_2, wf_20_3, wp_20_3, wr_22, wf_22_0, wf_22_1, wf_22_2, wp_22_2, wr_25, wf_25_0, wf_25_1, wf_25_2, wp_25_2, wr_28, wf_28_0, wf_28_1, wf_28_2, wp_28_2, wr_31, wf_31_0, wf_31_1, wf_31_2, wp_31_2, wf_31_3, wp_31_3, wr_33, wf_33_0, wf_33_1, wp_33_1, wf_33_2, wp_33_2, wr_35, wf_35_0, wf_35_1, wp_35_1, wf_35_2, wp_35_2, wf_35_3, wp_35_3, wr_36, wf_36_0, wf_36_1, wp_36_1, wf_36_2, wp_36_2, wr_38, wf_38_0, wp_38_0, wf_38_1, wp_38_1, wf_38_2, wp_38_2, wf_38_3, wp_38_3, wf_38_4, wf_38_5, wf_38_6, wf_38_7, wr_43, wf_43_0, wf_43_1, wp_43_1, wf_43_2, wf_43_3, wf_43_4, wp_43_4, wf_43_5, wp_43_5, wr_48, wf_48_0, wp_48_0, wf_48_1, wp_48_1, wf_48_2, wr_50, wf_50_0, wp_50_0, wf_50_1, wp_50_1, wf_50_2, wr_52, wf_52_0, wp_52_0, wf_52_1, wp_52_1, wf_52_2, wr_54, wf_54_0, wp_54_0, wf_54_1, wp_54_1, wf_54_2, wr_56, wf_56_0, wp_56_0, wf_56_1, wp_56_1, wf_56_2, wr_58, wf_58_0, wp_58_0, wf_58_1, wp_58_1, wf_58_2, wr_60, wf_60_0, wp_60_0, wf_60_1, wp_60_1, wf_60_2, wp_60_2, wf_60_3, wp_60_3, wf_60_4, wf_60_5, wf_60_6, wf_60_7, wf_60_8, wf_60_9, wf_60_10, wf_60_11, wp_60_11, wf_60_12, wf_60_13, wf_60_14, wp_60_14, wf_60_15, wf_60_16, wf_60_17, wp_60_17, wf_60_18, wf_60_19, wp_60_19, wf_60_20, wp_60_20, wf_60_21, wf_60_22, wf_60_23, wp_60_23, wf_60_24, wf_60_25, wf_60_26, wf_60_27, wf_60_28, wf_60_29, wp_60_29, wf_60_30, wf_60_31, wf_60_32, wf_60_33, wf_60_34, wp_60_34, wf_60_35, wf_60_36, wf_60_37, wf_60_38, wp_60_38, wf_60_39, wp_60_39, wf_60_40, wp_60_40, wf_60_41, wp_60_41, wa_3, wt_3, wa_4, wt_4, wa_6, wt_6, wa_8, wt_8, wa_9, wt_9, wa_11, wt_11, wa_12, wt_12, wa_14, wt_14, wa_15, wt_15, wa_18, wt_18, wa_19, wt_19, wa_21, wt_21, wa_23, wt_23, wa_24, wt_24, wa_26, wt_26, wa_27, wt_27, wa_29, wt_29, wa_30, wt_30, wa_32, wt_32, wa_34, wt_34, wa_37, wt_37, wa_39, wt_39, wa_40, wt_40, wa_41, wt_41, wa_42, wt_42, wa_44, wt_44, wa_45, wt_45, wa_46, wt_46, wa_49, wt_49, wa_51, wt_51, wa_53, wt_53, wa_55, wt_55, wa_57, wt_57, wa_59, wt_59, wa_61, wt_61, wa_62, wt_62, wa_63, wt_63, wa_64, wt_64, wa_65, wt_65, wa_66, wt_66, wa_67, wt_67, wa_68, wt_68, wa_69, wt_69, wa_70, wt_70, wa_71, wt_71, wa_72, wt_72, wa_73, wt_73, wa_74, wt_74, wa_75, wt_75, wa_76, wt_76, wa_77, wt_77, wa_78, wt_78, wa_79, wt_79, wa_80, wt_80, wa_81, wt_81, wa_82, wt_82, wa_83, wt_83, wa_84, wt_84, wa_85, wt_85, wa_86, wt_86, wl_47, h1, e1, e3, e4, e5, e6, nI_1]) (fun s i hi hs => (bt_or s hs _ (by have := hv (2 * i + c / 2 ^ i % 2) (by omega); omega)).2.1) (T + 1) 2000 0 0 (by omega) (by omega) (by decide)
  have l2 := fun K' => loopF (fun f s i => J_X8_blockOf_49 36 (Wd S) K' f (nI s) (nI i)) (fun s => K' (nI s)) (fun i s => s ||| 2 ^ p i) (fun _ s => s < 256) (T + K + 1) (fun f s _ => by
      rw [J_X8_blockOf_49]
      simp only [Nat.reduceEqDiff, Nat.reduceAdd, Nat.reduceMul, reduceCtorEq, if_true, if_false, bs, rLet_eq, rB2_e, reduceIte, wr_0, wf_0_0, wf_0_1, wf_0_2, wp_0_2, wf_0_3, wf_0_4, wf_0_5, wf_0_6, wf_0_7, wf_0_8, wr_1, wf_1_0, wf_1_1, wf_1_2, wf_1_3, wf_1_4, wr_2, wf_2_0, wp_2_0, wf_2_1, wp_2_1, wf_2_2, wp_2_2, wf_2_3, wp_2_3, wf_2_4, wf_2_5, wr_5, wf_5_0, wf_5_1, wf_5_2, wp_5_2, wf_5_3, wp_5_3, wr_7, wf_7_0, wf_7_1, wf_7_2, wp_7_2, wr_10, wf_10_0, wf_10_1, wf_10_2, wp_10_2, wr_13, wf_13_0, wf_13_1, wf_13_2, wp_13_2, wr_16, wf_16_0, wf_16_1, wf_16_2, wf_16_3, wf_16_4, wr_17, wf_17_0, wp_17_0, wf_17_1, wp_17_1, wf_17_2, wp_17_2, wf_17_3, wp_17_3, wf_17_4, wf_17_5, wr_20, wf_20_0, wf_20_1, wf_20_2, wp_20_2, wf_20_3, wp_20_3, wr_22, wf_22_0, wf_22_1, wf_22_2, wp_22_2, wr_25, wf_25_0, wf_25_1, wf_25_2, wp_25_2, wr_28, wf_28_0, wf_28_1, wf_28_2, wp_28_2, wr_31, wf_31_0, wf_31_1, wf_31_2, wp_31_2, wf_31_3, wp_31_3, wr_33, wf_33_0, wf_33_1, wp_33_1, wf_33_2, wp_33_2, wr_35, wf_35_0, wf_35_1, wp_35_1, wf_35_2, wp_35_2, wf_35_3, wp_35_3, wr_36, wf_36_0, wf_36_1, wp_36_1, wf_36_2, wp_36_2, wr_38, wf_38_0, wp_38_0, wf_38_1, wp_38_1, wf_38_2, wp_38_2, wf_38_3, wp_38_3, wf_38_4, wf_38_5, wf_38_6, wf_38_7, wr_43, wf_43_0, wf_43_1, wp_43_1, wf_43_2, wf_43_3, wf_43_4, wp_43_4, wf_43_5, wp_43_5, wr_48, wf_48_0, wp_48_0, wf_48_1, wp_48_1, wf_48_2, wr_50, wf_50_0, wp_50_0, wf_50_1, wp_50_1, wf_50_2, wr_52, wf_52_0, wp_52_0, wf_52_1, wp_52_1, wf_52_2, wr_54, wf_54_0, wp_54_0, wf_54_1, wp_54_1, wf_54_2, wr_56, wf_56_0, wp_56_0, wf_56_1, wp_56_1, wf_56_2, wr_58, wf_58_0, wp_58_0, wf_58_1, wp_58_1, wf_58_2, wr_60, wf_60_0, wp_60_0, wf_60_1, wp_60_1, wf_60_2, wp_60_2, wf_60_3, wp_60_3, wf_60_4, wf_60_5, wf_60_6, wf_60_7, wf_60_8, wf_60_9, wf_60_10, wf_60_11, wp_60_11, wf_60_12, wf_60_13, wf_60_14, wp_60_14, wf_60_15, wf_60_16, wf_60_17, wp_60_17, wf_60_18, wf_60_19, wp_60_19, wf_60_20, wp_60_20, wf_60_21, wf_60_22, wf_60_23, wp_60_23, wf_60_24, wf_60_25, wf_60_26, wf_60_27, wf_60_28, wf_60_29, wp_60_29, wf_60_30, wf_60_31, wf_60_32, wf_60_33, wf_60_34, wp_60_34, wf_60_35, wf_60_36, wf_60_37, wf_60_38, wp_60_38, wf_60_39, wp_60_39, wf_60_40, wp_60_40, wf_60_41, wp_60_41, h2, e0b]) (fun f s i hi hs => by
      have e1 : (nI (T + K + 1) ≤ nI i) ↔ False := iff_false_intro (nI_ge hi (by omega))
      have e5 := hp i hi
      have e6 := (bt_or s hs (p i) (by have := hv i hi; omega)).1
      rw [J_X8_blockOf_49]
      simp (disch := omega) only [Nat.reduceEqDiff, Nat.reduceAdd, Nat.reduceMul, reduceCtorEq, if_true, if_false, bs, rLet_eq, rB2_e, reduceIte, wr_0, wf_0_0, wf_0_1, wf_0_2, wp_0_2, wf_0_3, wf_0_4, wf_0_5, wf_0_6, wf_0_7, wf_0_8, wr_1, wf_1_0, wf_1_1, wf_1_2, wf_1_3, wf_1_4, wr_2, wf_2_0, wp_2_0, wf_2_1, wp_2_1, wf_2_2, wp_2_2, wf_2_3, wp_2_3, wf_2_4, wf_2_5, wr_5, wf_5_0, wf_5_1, wf_5_2, wp_5_2, wf_5_3, wp_5_3, wr_7, wf_7_0, wf_7_1, wf_7_2, wp_7_2, wr_10, wf_10_0, wf_10_1, wf_10_2, wp_10_2, wr_13, wf_13_0, wf_13_1, wf_13_2, wp_13_2, wr_16, wf_16_0, wf_16_1, wf_16_2, wf_16_3, wf_16_4, wr_17, wf_17_0, wp_17_0, wf_17_1, wp_17_1, wf_17_2, wp_17_2, wf_17_3, wp_17_3, wf_17_4, wf_17_5, wr_20, wf_20_0, wf_20_1, wf_20_2, wp_20_2, wf_20_3, wp_20_3, wr_22, wf_22_0, wf_22_1, wf_22_2, wp_22_2, wr_25, wf_25_0, wf_25_1, wf_25_2, wp_25_2, wr_28, wf_28_0, wf_28_1, wf_28_2, wp_28_2, wr_31, wf_31_0, wf_31_1, wf_31_2, wp_31_2, wf_31_3, wp_31_3, wr_33, wf_33_0, wf_33_1, wp_33_1, wf_33_2, wp_33_2, wr_35, wf_35_0, wf_35_1, wp_35_1, wf_35_2, wp_35_2, wf_35_3, wp_35_3, wr_36, wf_36_0, wf_36_1, wp_36_1, wf_36_2, wp_36_2, wr_38, wf_38_0, wp_38_0, wf_38_1, wp_38_1, wf_38_2, wp_38_2, wf_38_3, wp_38_3, wf_38_4, wf_38_5, wf_38_6, wf_38_7, wr_43, wf_43_0, wf_43_1, wp_43_1, wf_43_2, wf_43_3, wf_43_4, wp_43_4, wf_43_5, wp_43_5, wr_48, wf_48_0, wp_48_0, wf_48_1, wp_48_1, wf_48_2, wr_50, wf_50_0, wp_50_0, wf_50_1, wp_50_1, wf_50_2, wr_52, wf_52_0, wp_52_0, wf_52_1, wp_52_1, wf_52_2, wr_54, wf_54_0, wp_54_0, wf_54_1, wp_54_1, wf_54_2, wr_56, wf_56_0, wp_56_0, wf_56_1, wp_56_1, wf_56_2, wr_58, wf_58_0, wp_58_0, wf_58_1, wp_58_1, wf_58_2, wr_60, wf_60_0, wp_60_0, wf_60_1, wp_60_1, wf_60_2, wp_60_2, wf_60_3, wp_60_3, wf_60_4, wf_60_5, wf_60_6, wf_60_7, wf_60_8, wf_60_9, wf_60_10, wf_60_11, wp_60_11, wf_60_12, wf_60_13, wf_60_14, wp_60_14, wf_60_15, wf_60_16, wf_60_17, wp_60_17, wf_60_18, wf_60_19, wp_60_19, wf_60_20, wp_60_20, wf_60_21, wf_60_22, wf_60_23, wp_60_23, wf_60_24, wf_60_25, wf_60_26, wf_60_27, wf_60_28, wf_60_29, wp_60_29, wf_60_30, wf_60_31, wf_60_32, wf_60_33, wf_60_34, wp_60_34, wf_60_35, wf_60_36, wf_60_37, wf_60_38, wp_60_38, wf_60_39, wp_60_39, wf_60_40, wp_60_40, wf_60_41, wp_60_41, wa_3, wt_3, wa_4, wt_4, wa_6, wt_6, wa_8, wt_8, wa_9, wt_9, wa_11, wt_11, wa_12, wt_12, wa_14, wt_14, wa_15, wt_15, wa_18, wt_18, wa_19, wt_19, wa_21, wt_21, wa_23, wt_23, wa_24, wt_24, wa_26, wt_26, wa_27, wt_27, wa_29, wt_29, wa_30, wt_30, wa_32, wt_32, wa_34, wt_34, wa_37, wt_37, wa_39, wt_39, wa_40, wt_40, wa_41, wt_41, wa_42, wt_42, wa_44, wt_44, wa_45, wt_45, wa_46, wt_46, wa_49, wt_49, wa_51, wt_51, wa_53, wt_53, wa_55, wt_55, wa_57, wt_57, wa_59, wt_59, wa_61, wt_61, wa_62, wt_62, wa_63, wt_63, wa_64, wt_64, wa_65, wt_65, wa_66, wt_66, wa_67, wt_67, wa_68, wt_68, wa_69, wt_69, wa_70, wt_70, wa_71, wt_71, wa_72, wt_72, wa_73, wt_73, wa_74, wt_74, wa_75, wt_75, wa_76, wt_76, wa_77, wt_77, wa_78, wt_78, wa_79, wt_79, wa_80, wt_80, wa_81, wt_81, wa_82, wt_82, wa_83, wt_83, wa_84, wt_84, wa_85, wt_85, wa_86, wt_86, wl_47, h2, e1, e5, e6, nI_1]) (fun s i hi hs => (bt_or s hs _ (by have := hv i hi; omega)).2.1) (T + K + 1 - 2 * (T + 1)) 2000 _ (2 * (T + 1)) (by omega) (by omega) s1
  have e7 : (2 : Int32) * nI (T + 1) = nI (2 * (T + 1)) := by rw [e2, pk_mul]
  unfold J_X8_blockOf
  simp only [nI_0] at l1
  simp only [rLet_eq, wr_36, l1, wf_36_1, h1, bs, e7, l2, numberOf2 s2]
theorem choices36 {S : rSt} {T : Nat} (hT : T < 3) (h1 : S.1 36 1 = nI (T + 1)) : J_X8_choices 36 (Wd S) = some (nI (2 ^ (T + 1))) := by
  unfold J_X8_choices
  simp only [Nat.reduceEqDiff, Nat.reduceAdd, Nat.reduceMul, reduceCtorEq, if_true, if_false, bs, rLet_eq, rB2_e, reduceIte, wr_0, wf_0_0, wf_0_1, wf_0_2, wp_0_2, wf_0_3, wf_0_4, wf_0_5, wf_0_6, wf_0_7, wf_0_8, wr_1, wf_1_0, wf_1_1, wf_1_2, wf_1_3, wf_1_4, wr_2, wf_2_0, wp_2_0, wf_2_1, wp_2_1, wf_2_2, wp_2_2, wf_2_3, wp_2_3, wf_2_4, wf_2_5, wr_5, wf_5_0, wf_5_1, wf_5_2, wp_5_2, wf_5_3, wp_5_3, wr_7, wf_7_0, wf_7_1, wf_7_2, wp_7_2, wr_10, wf_10_0, wf_10_1, wf_10_2, wp_10_2, wr_13, wf_13_0, wf_13_1, wf_13_2, wp_13_2, wr_16, wf_16_0, wf_16_1, wf_16_2, wf_16_3, wf_16_4, wr_17, wf_17_0, wp_17_0, wf_17_1, wp_17_1, wf_17_2, wp_17_2, wf_17_3, wp_17_3, wf_17_4, wf_17_5, wr_20, wf_20_0, wf_20_1, wf_20_2, wp_20_2, wf_20_3, wp_20_3, wr_22, wf_22_0, wf_22_1, wf_22_2, wp_22_2, wr_25, wf_25_0, wf_25_1, wf_25_2, wp_25_2, wr_28, wf_28_0, wf_28_1, wf_28_2, wp_28_2, wr_31, wf_31_0, wf_31_1, wf_31_2, wp_31_2, wf_31_3, wp_31_3, wr_33, wf_33_0, wf_33_1, wp_33_1, wf_33_2, wp_33_2, wr_35, wf_35_0, wf_35_1, wp_35_1, wf_35_2, wp_35_2, wf_35_3, wp_35_3, wr_36, wf_36_0, wf_36_1, wp_36_1, wf_36_2, wp_36_2, wr_38, wf_38_0, wp_38_0, wf_38_1, wp_38_1, wf_38_2, wp_38_2, wf_38_3, wp_38_3, wf_38_4, wf_38_5, wf_38_6, wf_38_7, wr_43, wf_43_0, wf_43_1, wp_43_1, wf_43_2, wf_43_3, wf_43_4, wp_43_4, wf_43_5, wp_43_5, wr_48, wf_48_0, wp_48_0, wf_48_1, wp_48_1, wf_48_2, wr_50, wf_50_0, wp_50_0, wf_50_1, wp_50_1, wf_50_2, wr_52, wf_52_0, wp_52_0, wf_52_1, wp_52_1, wf_52_2, wr_54, wf_54_0, wp_54_0, wf_54_1, wp_54_1, wf_54_2, wr_56, wf_56_0, wp_56_0, wf_56_1, wp_56_1, wf_56_2, wr_58, wf_58_0, wp_58_0, wf_58_1, wp_58_1, wf_58_2, wr_60, wf_60_0, wp_60_0, wf_60_1, wp_60_1, wf_60_2, wp_60_2, wf_60_3, wp_60_3, wf_60_4, wf_60_5, wf_60_6, wf_60_7, wf_60_8, wf_60_9, wf_60_10, wf_60_11, wp_60_11, wf_60_12, wf_60_13, wf_60_14, wp_60_14, wf_60_15, wf_60_16, wf_60_17, wp_60_17, wf_60_18, wf_60_19, wp_60_19, wf_60_20, wp_60_20, wf_60_21, wf_60_22, wf_60_23, wp_60_23, wf_60_24, wf_60_25, wf_60_26, wf_60_27, wf_60_28, wf_60_29, wp_60_29, wf_60_30, wf_60_31, wf_60_32, wf_60_33, wf_60_34, wp_60_34, wf_60_35, wf_60_36, wf_60_37, wf_60_38, wp_60_38, wf_60_39, wp_60_39, wf_60_40, wp_60_40, wf_60_41, wp_60_41, h1, shl1 (T + 1) (by omega)]
/-- the set of points of a choice -/
def sO (p : Nat → Nat) (K T c : Nat) : Nat := rF (fun i s => s ||| 2 ^ p i) (T + K + 1 - 2 * (T + 1)) (2 * (T + 1)) (rF (fun i s => s ||| 2 ^ p (2 * i + c / 2 ^ i % 2)) (T + 1) 0 0)
theorem pc_2 : ∀ a, a < 8 → ∀ b, b < 8 → a ≠ b → pc (2 ^ a ||| 2 ^ b) = 2 := by decide +kernel
theorem pc_3' : ∀ a, a < 8 → ∀ b, b < 8 → ∀ d, d < 8 → (decide (a = b) || (decide (a = d) || (decide (b = d) || decide (pc (2 ^ a ||| 2 ^ b ||| 2 ^ d) = 3)))) = true := by decide +kernel
theorem pc_3 (a : Nat) (ha : a < 8) (b : Nat) (hb : b < 8) (d : Nat) (hd : d < 8) (h1 : a ≠ b) (h2 : a ≠ d) (h3 : b ≠ d) : pc (2 ^ a ||| 2 ^ b ||| 2 ^ d) = 3 := by
  have h := pc_3' a ha b hb d hd
  simpa [h1, h2, h3] using h
theorem Ok3_c {V K T : Nat} (hk : Ok3 V K T) : (K = 2 ∧ T = 1) ∨ (K = 3 ∧ T = 1) ∨ (K = 3 ∧ T = 2) := by
  obtain ⟨k1, k2, k3, k4, k5, k6⟩ := hk
  omega
theorem sO_21 (p : Nat → Nat) (c : Nat) : sO p 2 1 c = 2 ^ p (2 * 0 + c / 2 ^ 0 % 2) ||| 2 ^ p (2 * 1 + c / 2 ^ 1 % 2) := by
  show (0 ||| _) ||| _ = _
  rw [Nat.zero_or]
theorem sO_31 (p : Nat → Nat) (c : Nat) : sO p 3 1 c = 2 ^ p (2 * 0 + c / 2 ^ 0 % 2) ||| 2 ^ p (2 * 1 + c / 2 ^ 1 % 2) ||| 2 ^ p 4 := by
  show ((0 ||| _) ||| _) ||| _ = _
  rw [Nat.zero_or]
theorem sO_32 (p : Nat → Nat) (c : Nat) : sO p 3 2 c = 2 ^ p (2 * 0 + c / 2 ^ 0 % 2) ||| 2 ^ p (2 * 1 + c / 2 ^ 1 % 2) ||| 2 ^ p (2 * 2 + c / 2 ^ 2 % 2) := by
  show ((0 ||| _) ||| _) ||| _ = _
  rw [Nat.zero_or]
theorem p2_lt {a V : Nat} (h : a < V) : 2 ^ a < 2 ^ V := Nat.pow_lt_pow_right (by decide) h
theorem sO_pr {V K T c : Nat} {p : Nat → Nat} (hk : Ok3 V K T) (hp : TwP V (T + K + 1) p) : pr V K (sO p K T c) = true := by
  have hV := hk.2.1
  obtain ⟨h1, h2⟩ := hp
  unfold pr
  rw [Bool.and_eq_true, decide_eq_true_eq, decide_eq_true_eq]
  rcases Ok3_c hk with ⟨rfl, rfl⟩ | ⟨rfl, rfl⟩ | ⟨rfl, rfl⟩
  · have a := h1 (2 * 0 + c / 2 ^ 0 % 2) (by omega)
    have b := h1 (2 * 1 + c / 2 ^ 1 % 2) (by omega)
    rw [sO_21]
    refine ⟨Nat.or_lt_two_pow (p2_lt a) (p2_lt b), pc_2 _ (by omega) _ (by omega) (fun h => ?_)⟩
    have := h2 _ _ (by omega) (by omega) h
    omega
  · have a := h1 (2 * 0 + c / 2 ^ 0 % 2) (by omega)
    have b := h1 (2 * 1 + c / 2 ^ 1 % 2) (by omega)
    have d := h1 4 (by omega)
    rw [sO_31]
    refine ⟨Nat.or_lt_two_pow (Nat.or_lt_two_pow (p2_lt a) (p2_lt b)) (p2_lt d), pc_3 _ (by omega) _ (by omega) _ (by omega) (fun h => ?_) (fun h => ?_) (fun h => ?_)⟩
    · have := h2 _ _ (by omega) (by omega) h
      omega
    · have := h2 _ _ (by omega) (by omega) h
      omega
    · have := h2 _ _ (by omega) (by omega) h
      omega
  · have a := h1 (2 * 0 + c / 2 ^ 0 % 2) (by omega)
    have b := h1 (2 * 1 + c / 2 ^ 1 % 2) (by omega)
    have d := h1 (2 * 2 + c / 2 ^ 2 % 2) (by omega)
    rw [sO_32]
    refine ⟨Nat.or_lt_two_pow (Nat.or_lt_two_pow (p2_lt a) (p2_lt b)) (p2_lt d), pc_3 _ (by omega) _ (by omega) _ (by omega) (fun h => ?_) (fun h => ?_) (fun h => ?_)⟩
    · have := h2 _ _ (by omega) (by omega) h
      omega
    · have := h2 _ _ (by omega) (by omega) h
      omega
    · have := h2 _ _ (by omega) (by omega) h
      omega
theorem sO_inj {V K T c e : Nat} {p : Nat → Nat} (hk : Ok3 V K T) (hp : TwP V (T + K + 1) p) (hc : c < 2 ^ (T + 1)) (he : e < 2 ^ (T + 1)) (h : sO p K T c = sO p K T e) : c = e := by
  obtain ⟨h1, h2⟩ := hp
  have key : ∀ x, Nat.testBit (sO p K T c) x = Nat.testBit (sO p K T e) x := fun x => by rw [h]
  rcases Ok3_c hk with ⟨rfl, rfl⟩ | ⟨rfl, rfl⟩ | ⟨rfl, rfl⟩
  · simp only [sO_21, Nat.testBit_or, Nat.testBit_two_pow] at key
    have k0 := key (p (2 * 0 + c / 2 ^ 0 % 2))
    have k1 := key (p (2 * 1 + c / 2 ^ 1 % 2))
    simp only [decide_true, Bool.true_or, Bool.or_true, eq_comm (a := true), Bool.or_eq_true, decide_eq_true_eq] at k0 k1
    have g0 : 2 * 0 + e / 2 ^ 0 % 2 = 2 * 0 + c / 2 ^ 0 % 2 := by
      rcases k0 with k | k
      · exact h2 _ _ (by omega) (by omega) k
      · have := h2 _ _ (by omega) (by omega) k
        omega
    have g1 : 2 * 1 + e / 2 ^ 1 % 2 = 2 * 1 + c / 2 ^ 1 % 2 := by
      rcases k1 with k | k
      · have := h2 _ _ (by omega) (by omega) k
        omega
      · exact h2 _ _ (by omega) (by omega) k
    simp only [Nat.pow_zero, Nat.pow_one, Nat.div_one, Nat.reduceAdd, Nat.reducePow] at hc he g0 g1
    omega
  · simp only [sO_31, Nat.testBit_or, Nat.testBit_two_pow] at key
    have k0 := key (p (2 * 0 + c / 2 ^ 0 % 2))
    have k1 := key (p (2 * 1 + c / 2 ^ 1 % 2))
    simp only [decide_true, Bool.true_or, Bool.or_true, eq_comm (a := true), Bool.or_eq_true, decide_eq_true_eq] at k0 k1
    have g0 : 2 * 0 + e / 2 ^ 0 % 2 = 2 * 0 + c / 2 ^ 0 % 2 := by
      rcases k0 with (k | k) | k
      · exact h2 _ _ (by omega) (by omega) k
      · have := h2 _ _ (by omega) (by omega) k
        omega
      · have := h2 _ _ (by omega) (by omega) k
        omega
    have g1 : 2 * 1 + e / 2 ^ 1 % 2 = 2 * 1 + c / 2 ^ 1 % 2 := by
      rcases k1 with (k | k) | k
      · have := h2 _ _ (by omega) (by omega) k
        omega
      · exact h2 _ _ (by omega) (by omega) k
      · have := h2 _ _ (by omega) (by omega) k
        omega
    simp only [Nat.pow_zero, Nat.pow_one, Nat.div_one, Nat.reduceAdd, Nat.reducePow] at hc he g0 g1
    omega
  · simp only [sO_32, Nat.testBit_or, Nat.testBit_two_pow] at key
    have k0 := key (p (2 * 0 + c / 2 ^ 0 % 2))
    have k1 := key (p (2 * 1 + c / 2 ^ 1 % 2))
    have k2 := key (p (2 * 2 + c / 2 ^ 2 % 2))
    simp only [decide_true, Bool.true_or, Bool.or_true, eq_comm (a := true), Bool.or_eq_true, decide_eq_true_eq] at k0 k1 k2
    have g0 : 2 * 0 + e / 2 ^ 0 % 2 = 2 * 0 + c / 2 ^ 0 % 2 := by
      rcases k0 with (k | k) | k
      · exact h2 _ _ (by omega) (by omega) k
      · have := h2 _ _ (by omega) (by omega) k
        omega
      · have := h2 _ _ (by omega) (by omega) k
        omega
    have g1 : 2 * 1 + e / 2 ^ 1 % 2 = 2 * 1 + c / 2 ^ 1 % 2 := by
      rcases k1 with (k | k) | k
      · have := h2 _ _ (by omega) (by omega) k
        omega
      · exact h2 _ _ (by omega) (by omega) k
      · have := h2 _ _ (by omega) (by omega) k
        omega
    have g2 : 2 * 2 + e / 2 ^ 2 % 2 = 2 * 2 + c / 2 ^ 2 % 2 := by
      rcases k2 with (k | k) | k
      · have := h2 _ _ (by omega) (by omega) k
        omega
      · have := h2 _ _ (by omega) (by omega) k
        omega
      · exact h2 _ _ (by omega) (by omega) k
    simp only [Nat.pow_zero, Nat.pow_one, Nat.div_one, Nat.reduceAdd, Nat.reducePow] at hc he g0 g1 g2
    omega
/-- the block of a choice -/
def bk (p : Nat → Nat) (V K T c : Nat) : Nat := cnt V K (sO p K T c)
def sgC (c : Nat) : Int32 := if pc c % 2 = 0 then 1 else -1
theorem bk_lt {V K T c : Nat} {p : Nat → Nat} (hk : Ok3 V K T) (hp : TwP V (T + K + 1) p) : bk p V K T c < MB V K ∧ BT V K (bk p V K T c) = sO p K T c := by
  have h1 := sO_pr (c := c) hk hp
  have h2 := (pr_lt h1).1
  have h3 := p2_le hk.2.1
  exact ⟨cnt_lt (by omega) h1, BT_at (by omega) h1⟩
theorem bk_inj {V K T c e : Nat} {p : Nat → Nat} (hk : Ok3 V K T) (hp : TwP V (T + K + 1) p) (hc : c < 2 ^ (T + 1)) (he : e < 2 ^ (T + 1)) (h : bk p V K T c = bk p V K T e) : c = e := by
  refine sO_inj hk hp hc he ?_
  rw [← (bk_lt (c := c) hk hp).2, ← (bk_lt (c := e) hk hp).2, h]
theorem nb_sO {V K T c : Nat} {p : Nat → Nat} (hk : Ok3 V K T) (hp : TwP V (T + K + 1) p) : nb V K (sO p K T c) = nI (bk p V K T c) := by
  unfold nb
  rw [if_pos (sO_pr hk hp)]
  rfl
/-- the signs that a twist gives -/
def SGF (p : Nat → Nat) (V K T : Nat) (g : Nat → Int32) : Nat → Int32 := rF (fun c g => upd g (bk p V K T c) (sgC c)) (2 ^ (T + 1)) 0 g
def badC (p : Nat → Nat) (V K T : Nat) (f : Nat → Int32) (n : Int32) (c : Nat) : Bool := !inB (f (bk p V K T c) + n * sgC c) (-99) 99
def addC (p : Nat → Nat) (V K T : Nat) (f : Nat → Int32) (n : Int32) : Nat → Int32 := rF (fun c g => upd g (bk p V K T c) (g (bk p V K T c) + n * sgC c)) (2 ^ (T + 1)) 0 f
def badS (s f : Nat → Int32) (n : Int32) (j : Nat) : Bool := !inB (f j + n * s j) (-99) 99
theorem tw_add {V K T : Nat} {p : Nat → Nat} (hk : Ok3 V K T) (hp : TwP V (T + K + 1) p) (f : Nat → Int32) (n : Int32) (g0 : Nat → Int32) (hg : ∀ j, j < MB V K → g0 j = 0) : (∀ j, j < MB V K → addC p V K T f n j = f j + n * SGF p V K T g0 j) ∧ (∀ j, MB V K ≤ j → addC p V K T f n j = f j) ∧ (∀ c, c < 2 ^ (T + 1) → SGF p V K T g0 (bk p V K T c) = sgC c) ∧ ∀ j, j < MB V K → SGF p V K T g0 j = 0 ∨ ∃ c, c < 2 ^ (T + 1) ∧ j = bk p V K T c := by
  have key := rF_rel (fun c g => upd g (bk p V K T c) (g (bk p V K T c) + n * sgC c)) (fun c g => upd g (bk p V K T c) (sgC c)) (fun i a s => i ≤ 2 ^ (T + 1) → (∀ j, j < MB V K → a j = f j + n * s j) ∧ (∀ j, MB V K ≤ j → a j = f j) ∧ (∀ c, c < i → s (bk p V K T c) = sgC c) ∧ (∀ c, i ≤ c → c < 2 ^ (T + 1) → s (bk p V K T c) = 0) ∧ ∀ j, j < MB V K → s j = 0 ∨ ∃ c, c < i ∧ j = bk p V K T c) (2 ^ (T + 1)) 0 f g0 (fun _ => ⟨fun j hj => by rw [hg j hj, Int32.mul_zero, Int32.add_zero], fun j _ => rfl, fun c hc => absurd hc (Nat.not_lt_zero c), fun c _ _ => hg _ (bk_lt hk hp).1, fun j hj => Or.inl (hg j hj)⟩) (fun i a s h1 h2 hI hi => by
    obtain ⟨i1, i2, i3, i4, i5⟩ := hI (by omega)
    have hb := (bk_lt (c := i) hk hp).1
    have z := i4 i (Nat.le_refl _) (by omega)
    refine ⟨fun j hj => ?_, fun j hj => ?_, fun c hc => ?_, fun c h3 h4 => ?_, fun j hj => ?_⟩
    · by_cases hj2 : j = bk p V K T i
      · rw [hj2, up_s, up_s, i1 _ hb, z, Int32.mul_zero, Int32.add_zero]
      · rw [up_n hj2, up_n hj2]
        exact i1 j hj
    · rw [up_n (by omega)]
      exact i2 j hj
    · by_cases hc2 : c = i
      · rw [hc2, up_s]
      · rw [up_n (fun h => hc2 (bk_inj hk hp (by omega) (by omega) h))]
        exact i3 c (by omega)
    · rw [up_n (fun h => absurd (bk_inj hk hp h4 (by omega) h) (by omega))]
      exact i4 c (by omega) h4
    · by_cases hj2 : j = bk p V K T i
      · exact Or.inr ⟨i, by omega, hj2⟩
      · rw [up_n hj2]
        rcases i5 j hj with h | ⟨c, h, h'⟩
        · exact Or.inl h
        · exact Or.inr ⟨c, by omega, h'⟩)
  rw [Nat.zero_add] at key
  obtain ⟨i1, i2, i3, -, i5⟩ := key (Nat.le_refl _)
  exact ⟨i1, i2, i3, i5⟩
theorem rFd_is (P : Nat → Bool) (n : Nat) : (rFd P n 0).isSome = true ↔ ∃ j, j < n ∧ P j = true := by
  constructor
  · intro h
    obtain ⟨j, hj⟩ := Option.isSome_iff_exists.mp h
    have := rFd_some n 0 hj
    exact ⟨j, by omega, this.2.2.1⟩
  · rintro ⟨j, hj, hp⟩
    cases hr : rFd P n 0 with
    | some q => rfl
    | none =>
      have := (rFd_none n 0).mp hr j (Nat.zero_le _) (by omega)
      rw [this] at hp; cases hp
theorem tw_bad {V K T : Nat} {p : Nat → Nat} (hk : Ok3 V K T) (hp : TwP V (T + K + 1) p) (f f' s : Nat → Int32) (n : Int32) (hs : ∀ j, j < MB V K → s j = SGF p V K T (fun _ => 0) j) (hf : ∀ j, j < MB V K → f' j = f j ∧ inB (f j) (-99) 99 = true) : (rFd (badS s f' n) (MB V K) 0).isSome = (rFd (badC p V K T f n) (2 ^ (T + 1)) 0).isSome := by
  obtain ⟨-, -, h3, h4⟩ := tw_add hk hp f n (fun _ => 0) (fun _ _ => rfl)
  apply Bool.eq_iff_iff.mpr
  rw [rFd_is, rFd_is]
  unfold badS badC
  constructor
  · rintro ⟨j, hj, h⟩
    rw [hs j hj, (hf j hj).1] at h
    rcases h4 j hj with h5 | ⟨c, hc, h5⟩
    · rw [h5, Int32.mul_zero, Int32.add_zero, (hf j hj).2] at h
      cases h
    · rw [h5, h3 c hc] at h
      exact ⟨c, hc, h⟩
  · rintro ⟨c, hc, h⟩
    have hb := (bk_lt (c := c) hk hp).1
    refine ⟨bk p V K T c, hb, ?_⟩
    rw [hs _ hb, h3 c hc, (hf _ hb).1]
    exact h
theorem signOf8 {c : Nat} (hc : c < 8) (w : rW) : J_X8_signOf (nI c) w = some (sgC c) := by
  have h1 : ∀ c, c < 8 → (if (nI (pc c) &&& 1) = 0 then some (1 : Int32) else some (-1)) = some (sgC c) := by decide +kernel
  unfold J_X8_signOf
  simp only [bc_eq, bs, bc_n c (by omega), h1 c hc]
theorem p2T {T : Nat} (h : T < 3) : 2 ^ (T + 1) ≤ 8 := by
  have : T = 0 ∨ T = 1 ∨ T = 2 := by omega
  rcases this with rfl | rfl | rfl <;> decide
theorem addTwist5 {S : rSt} {V K T : Nat} {p : Nat → Nat} (hk : Ok3 V K T) (c3 : S.1 2 3 = nI (MB V K)) (cB : IsB V K (S.2.2.1 3) (S.2.2.1 4)) (h1 : S.1 33 1 = nI (T + 1)) (h2 : S.1 33 2 = nI (T + K + 1)) (hp : ∀ i, i < T + K + 1 → S.2.2.1 34 i = nI (p i)) (hv : TwP V (T + K + 1) p) (n : Int32) : J_X5_addTwist 5 33 n (Wd S) = if (rFd (badC p V K T (S.2.2.1 6) n) (2 ^ (T + 1)) 0).isSome = true then some (false, Wd S) else some (true, Wd (sa S 6 (addC p V K T (S.2.2.1 6) n))) := by
  have hM := MB_ok hk
  have hT : T < 3 := by have := hk.2.2.2.1; have := hk.2.2.2.2.2; omega
  have h8 := p2T hT
  have e0 := nI_refl (n := 2 ^ (T + 1)) (by omega)
  have ch := choices33 hT h1
  have bo : ∀ (g : Nat → Int32) c, c < 8 → J_X8_blockOf 33 2 (nI c) (Wd (sa S 6 g)) = some (nI (bk p V K T c)) := by
    intro g c hc
    obtain ⟨s, a1, a2, a3⟩ := blockOf33 (S := sa S 6 g) hk h1 h2 hp hv.1 hc
    have a4 : s = sO p K T c := a2
    rw [a3]
    show some (S.2.2.1 4 s) = _
    rw [cB.2 s a1, a4, nb_sO hk hv]
  have hs : ∀ (g : Nat → Int32) c, c < 8 → J_X0_has 2 (nI (bk p V K T c)) (Wd (sa S 6 g)) = some true := by
    intro g c hc
    rw [has2]
    show some (hasB _ (S.1 2 3)) = _
    rw [c3, (hasB_n (by omega)).mpr ⟨_, (bk_lt hk hv).1, rfl⟩]
  have l2 := loopS (fun f g c => J_X5_addTwist_63 5 33 n f (nI c) (Wd (sa S 6 g))) (fun g => some (true, Wd (sa S 6 g))) (fun c g => upd g (bk p V K T c) (g (bk p V K T c) + n * sgC c)) (2 ^ (T + 1)) (fun f g => by
      have ch' := choices33 (S := sa S 6 g) hT h1
      rw [J_X5_addTwist_63]
      simp only [Nat.reduceEqDiff, Nat.reduceAdd, Nat.reduceMul, reduceCtorEq, if_true, if_false, bs, rLet_eq, rB2_e, reduceIte, wr_0, wf_0_0, wf_0_1, wf_0_2, wp_0_2, wf_0_3, wf_0_4, wf_0_5, wf_0_6, wf_0_7, wf_0_8, wr_1, wf_1_0, wf_1_1, wf_1_2, wf_1_3, wf_1_4, wr_2, wf_2_0, wp_2_0, wf_2_1, wp_2_1, wf_2_2, wp_2_2, wf_2_3, wp_2_3, wf_2_4, wf_2_5, wr_5, wf_5_0, wf_5_1, wf_5_2, wp_5_2, wf_5_3, wp_5_3, wr_7, wf_7_0, wf_7_1, wf_7_2, wp_7_2, wr_10, wf_10_0, wf_10_1, wf_10_2, wp_10_2, wr_13, wf_13_0, wf_13_1, wf_13_2, wp_13_2, wr_16, wf_16_0, wf_16_1, wf_16_2, wf_16_3, wf_16_4, wr_17, wf_17_0, wp_17_0, wf_17_1, wp_17_1, wf_17_2, wp_17_2, wf_17_3, wp_17_3, wf_17_4, wf_17_5, wr_20, wf_20_0, wf_20_1, wf_20_2, wp_20_2, wf_20_3, wp_20_3, wr_22, wf_22_0, wf_22_1, wf_22_2, wp_22_2, wr_25, wf_25_0, wf_25_1, wf_25_2, wp_25_2, wr_28, wf_28_0, wf_28_1, wf_28_2, wp_28_2, wr_31, wf_31_0, wf_31_1, wf_31_2, wp_31_2, wf_31_3, wp_31_3, wr_33, wf_33_0, wf_33_1, wp_33_1, wf_33_2, wp_33_2, wr_35, wf_35_0, wf_35_1, wp_35_1, wf_35_2, wp_35_2, wf_35_3, wp_35_3, wr_36, wf_36_0, wf_36_1, wp_36_1, wf_36_2, wp_36_2, wr_38, wf_38_0, wp_38_0, wf_38_1, wp_38_1, wf_38_2, wp_38_2, wf_38_3, wp_38_3, wf_38_4, wf_38_5, wf_38_6, wf_38_7, wr_43, wf_43_0, wf_43_1, wp_43_1, wf_43_2, wf_43_3, wf_43_4, wp_43_4, wf_43_5, wp_43_5, wr_48, wf_48_0, wp_48_0, wf_48_1, wp_48_1, wf_48_2, wr_50, wf_50_0, wp_50_0, wf_50_1, wp_50_1, wf_50_2, wr_52, wf_52_0, wp_52_0, wf_52_1, wp_52_1, wf_52_2, wr_54, wf_54_0, wp_54_0, wf_54_1, wp_54_1, wf_54_2, wr_56, wf_56_0, wp_56_0, wf_56_1, wp_56_1, wf_56_2, wr_58, wf_58_0, wp_58_0, wf_58_1, wp_58_1, wf_58_2, wr_60, wf_60_0, wp_60_0, wf_60_1, wp_60_1, wf_60_2, wp_60_2, wf_60_3, wp_60_3, wf_60_4, wf_60_5, wf_60_6, wf_60_7, wf_60_8, wf_60_9, wf_60_10, wf_60_11, wp_60_11, wf_60_12, wf_60_13, wf_60_14, wp_60_14, wf_60_15, wf_60_16, wf_60_17, wp_60_17, wf_60_18, wf_60_19, wp_60_19, wf_60_20, wp_60_20, wf_60_21, wf_60_22, wf_60_23, wp_60_23, wf_60_24, wf_60_25, wf_60_26, wf_60_27, wf_60_28, wf_60_29, wp_60_29, wf_60_30, wf_60_31, wf_60_32, wf_60_33, wf_60_34, wp_60_34, wf_60_35, wf_60_36, wf_60_37, wf_60_38, wp_60_38, wf_60_39, wp_60_39, wf_60_40, wp_60_40, wf_60_41, wp_60_41, ch', e0]) (fun f g c hc => by
      have e1 : (nI (2 ^ (T + 1)) ≤ nI c) ↔ False := iff_false_intro (nI_ge hc (by omega))
      have ch' := choices33 (S := sa S 6 g) hT h1
      have b1 := bo g c (by omega)
      have b2 := hs g c (by omega)
      have b3 := fun w => signOf8 (c := c) (by omega) w
      have b4 := (bk_lt (c := c) hk hv).1
      have b5 : bk p V K T c < 56 := by omega
      rw [J_X5_addTwist_63]
      simp only [Nat.reduceEqDiff, Nat.reduceAdd, Nat.reduceMul, reduceCtorEq, if_true, if_false, bs, rLet_eq, rB2_e, reduceIte, wr_0, wf_0_0, wf_0_1, wf_0_2, wp_0_2, wf_0_3, wf_0_4, wf_0_5, wf_0_6, wf_0_7, wf_0_8, wr_1, wf_1_0, wf_1_1, wf_1_2, wf_1_3, wf_1_4, wr_2, wf_2_0, wp_2_0, wf_2_1, wp_2_1, wf_2_2, wp_2_2, wf_2_3, wp_2_3, wf_2_4, wf_2_5, wr_5, wf_5_0, wf_5_1, wf_5_2, wp_5_2, wf_5_3, wp_5_3, wr_7, wf_7_0, wf_7_1, wf_7_2, wp_7_2, wr_10, wf_10_0, wf_10_1, wf_10_2, wp_10_2, wr_13, wf_13_0, wf_13_1, wf_13_2, wp_13_2, wr_16, wf_16_0, wf_16_1, wf_16_2, wf_16_3, wf_16_4, wr_17, wf_17_0, wp_17_0, wf_17_1, wp_17_1, wf_17_2, wp_17_2, wf_17_3, wp_17_3, wf_17_4, wf_17_5, wr_20, wf_20_0, wf_20_1, wf_20_2, wp_20_2, wf_20_3, wp_20_3, wr_22, wf_22_0, wf_22_1, wf_22_2, wp_22_2, wr_25, wf_25_0, wf_25_1, wf_25_2, wp_25_2, wr_28, wf_28_0, wf_28_1, wf_28_2, wp_28_2, wr_31, wf_31_0, wf_31_1, wf_31_2, wp_31_2, wf_31_3, wp_31_3, wr_33, wf_33_0, wf_33_1, wp_33_1, wf_33_2, wp_33_2, wr_35, wf_35_0, wf_35_1, wp_35_1, wf_35_2, wp_35_2, wf_35_3, wp_35_3, wr_36, wf_36_0, wf_36_1, wp_36_1, wf_36_2, wp_36_2, wr_38, wf_38_0, wp_38_0, wf_38_1, wp_38_1, wf_38_2, wp_38_2, wf_38_3, wp_38_3, wf_38_4, wf_38_5, wf_38_6, wf_38_7, wr_43, wf_43_0, wf_43_1, wp_43_1, wf_43_2, wf_43_3, wf_43_4, wp_43_4, wf_43_5, wp_43_5, wr_48, wf_48_0, wp_48_0, wf_48_1, wp_48_1, wf_48_2, wr_50, wf_50_0, wp_50_0, wf_50_1, wp_50_1, wf_50_2, wr_52, wf_52_0, wp_52_0, wf_52_1, wp_52_1, wf_52_2, wr_54, wf_54_0, wp_54_0, wf_54_1, wp_54_1, wf_54_2, wr_56, wf_56_0, wp_56_0, wf_56_1, wp_56_1, wf_56_2, wr_58, wf_58_0, wp_58_0, wf_58_1, wp_58_1, wf_58_2, wr_60, wf_60_0, wp_60_0, wf_60_1, wp_60_1, wf_60_2, wp_60_2, wf_60_3, wp_60_3, wf_60_4, wf_60_5, wf_60_6, wf_60_7, wf_60_8, wf_60_9, wf_60_10, wf_60_11, wp_60_11, wf_60_12, wf_60_13, wf_60_14, wp_60_14, wf_60_15, wf_60_16, wf_60_17, wp_60_17, wf_60_18, wf_60_19, wp_60_19, wf_60_20, wp_60_20, wf_60_21, wf_60_22, wf_60_23, wp_60_23, wf_60_24, wf_60_25, wf_60_26, wf_60_27, wf_60_28, wf_60_29, wp_60_29, wf_60_30, wf_60_31, wf_60_32, wf_60_33, wf_60_34, wp_60_34, wf_60_35, wf_60_36, wf_60_37, wf_60_38, wp_60_38, wf_60_39, wp_60_39, wf_60_40, wp_60_40, wf_60_41, wp_60_41, ch', e1, b1, b2, b3, bi_0, wa_6 b5, wt_6 b5, nI_1, Nat.reduceEqDiff, if_true, if_false, reduceIte, ri_i, ri_2, rl_1, rl_l, rl_3, ra_1, ra_2, ra_a, ra_4, rj_1, rj_2, rj_3, rj_j, sa_ss]) (2 ^ (T + 1)) 2000 (S.2.2.1 6) 0 (by omega) (by omega)
  have l1 := fun K' => loopA (fun f c => J_X5_addTwist_2 5 33 n (Wd S) K' f (nI c)) K' (some (false, Wd S)) (badC p V K T (S.2.2.1 6) n) (2 ^ (T + 1)) (fun f => by
      rw [J_X5_addTwist_2]
      simp only [Nat.reduceEqDiff, Nat.reduceAdd, Nat.reduceMul, reduceCtorEq, if_true, if_false, bs, rLet_eq, rB2_e, reduceIte, wr_0, wf_0_0, wf_0_1, wf_0_2, wp_0_2, wf_0_3, wf_0_4, wf_0_5, wf_0_6, wf_0_7, wf_0_8, wr_1, wf_1_0, wf_1_1, wf_1_2, wf_1_3, wf_1_4, wr_2, wf_2_0, wp_2_0, wf_2_1, wp_2_1, wf_2_2, wp_2_2, wf_2_3, wp_2_3, wf_2_4, wf_2_5, wr_5, wf_5_0, wf_5_1, wf_5_2, wp_5_2, wf_5_3, wp_5_3, wr_7, wf_7_0, wf_7_1, wf_7_2, wp_7_2, wr_10, wf_10_0, wf_10_1, wf_10_2, wp_10_2, wr_13, wf_13_0, wf_13_1, wf_13_2, wp_13_2, wr_16, wf_16_0, wf_16_1, wf_16_2, wf_16_3, wf_16_4, wr_17, wf_17_0, wp_17_0, wf_17_1, wp_17_1, wf_17_2, wp_17_2, wf_17_3, wp_17_3, wf_17_4, wf_17_5, wr_20, wf_20_0, wf_20_1, wf_20_2, wp_20_2, wf_20_3, wp_20_3, wr_22, wf_22_0, wf_22_1, wf_22_2, wp_22_2, wr_25, wf_25_0, wf_25_1, wf_25_2, wp_25_2, wr_28, wf_28_0, wf_28_1, wf_28_2, wp_28_2, wr_31, wf_31_0, wf_31_1, wf_31_2, wp_31_2, wf_31_3, wp_31_3, wr_33, wf_33_0, wf_33_1, wp_33_1, wf_33_2, wp_33_2, wr_35, wf_35_0, wf_35_1, wp_35_1, wf_35_2, wp_35_2, wf_35_3, wp_35_3, wr_36, wf_36_0, wf_36_1, wp_36_1, wf_36_2, wp_36_2, wr_38, wf_38_0, wp_38_0, wf_38_1, wp_38_1, wf_38_2, wp_38_2, wf_38_3, wp_38_3, wf_38_4, wf_38_5, wf_38_6, wf_38_7, wr_43, wf_43_0, wf_43_1, wp_43_1, wf_43_2, wf_43_3, wf_43_4, wp_43_4, wf_43_5, wp_43_5, wr_48, wf_48_0, wp_48_0, wf_48_1, wp_48_1, wf_48_2, wr_50, wf_50_0, wp_50_0, wf_50_1, wp_50_1, wf_50_2, wr_52, wf_52_0, wp_52_0, wf_52_1, wp_52_1, wf_52_2, wr_54, wf_54_0, wp_54_0, wf_54_1, wp_54_1, wf_54_2, wr_56, wf_56_0, wp_56_0, wf_56_1, wp_56_1, wf_56_2, wr_58, wf_58_0, wp_58_0, wf_58_1, wp_58_1, wf_58_2, wr_60, wf_60_0, wp_60_0, wf_60_1, wp_60_1, wf_60_2, wp_60_2, wf_60_3, wp_60_3, wf_60_4, wf_60_5, wf_60_6, wf_60_7, wf_60_8, wf_60_9, wf_60_10, wf_60_11, wp_60_11, wf_60_12, wf_60_13, wf_60_14, wp_60_14, wf_60_15, wf_60_16, wf_60_17, wp_60_17, wf_60_18, wf_60_19, wp_60_19, wf_60_20, wp_60_20, wf_60_21, wf_60_22, wf_60_23, wp_60_23, wf_60_24, wf_60_25, wf_60_26, wf_60_27, wf_60_28, wf_60_29, wp_60_29, wf_60_30, wf_60_31, wf_60_32, wf_60_33, wf_60_34, wp_60_34, wf_60_35, wf_60_36, wf_60_37, wf_60_38, wp_60_38, wf_60_39, wp_60_39, wf_60_40, wp_60_40, wf_60_41, wp_60_41, ch, e0]) (fun f c hc => by
      have e1 : (nI (2 ^ (T + 1)) ≤ nI c) ↔ False := iff_false_intro (nI_ge hc (by omega))
      have b1 := bo (S.2.2.1 6) c (by omega)
      have b2 := hs (S.2.2.1 6) c (by omega)
      rw [sa_id] at b1 b2
      have b3 := signOf8 (c := c) (by omega) (Wd S)
      have b4 := (bk_lt (c := c) hk hv).1
      have b5 : bk p V K T c < 56 := by omega
      rw [J_X5_addTwist_2]
      unfold badC
      simp only [Nat.reduceEqDiff, Nat.reduceAdd, Nat.reduceMul, reduceCtorEq, if_true, if_false, bs, rLet_eq, rB2_e, reduceIte, wr_0, wf_0_0, wf_0_1, wf_0_2, wp_0_2, wf_0_3, wf_0_4, wf_0_5, wf_0_6, wf_0_7, wf_0_8, wr_1, wf_1_0, wf_1_1, wf_1_2, wf_1_3, wf_1_4, wr_2, wf_2_0, wp_2_0, wf_2_1, wp_2_1, wf_2_2, wp_2_2, wf_2_3, wp_2_3, wf_2_4, wf_2_5, wr_5, wf_5_0, wf_5_1, wf_5_2, wp_5_2, wf_5_3, wp_5_3, wr_7, wf_7_0, wf_7_1, wf_7_2, wp_7_2, wr_10, wf_10_0, wf_10_1, wf_10_2, wp_10_2, wr_13, wf_13_0, wf_13_1, wf_13_2, wp_13_2, wr_16, wf_16_0, wf_16_1, wf_16_2, wf_16_3, wf_16_4, wr_17, wf_17_0, wp_17_0, wf_17_1, wp_17_1, wf_17_2, wp_17_2, wf_17_3, wp_17_3, wf_17_4, wf_17_5, wr_20, wf_20_0, wf_20_1, wf_20_2, wp_20_2, wf_20_3, wp_20_3, wr_22, wf_22_0, wf_22_1, wf_22_2, wp_22_2, wr_25, wf_25_0, wf_25_1, wf_25_2, wp_25_2, wr_28, wf_28_0, wf_28_1, wf_28_2, wp_28_2, wr_31, wf_31_0, wf_31_1, wf_31_2, wp_31_2, wf_31_3, wp_31_3, wr_33, wf_33_0, wf_33_1, wp_33_1, wf_33_2, wp_33_2, wr_35, wf_35_0, wf_35_1, wp_35_1, wf_35_2, wp_35_2, wf_35_3, wp_35_3, wr_36, wf_36_0, wf_36_1, wp_36_1, wf_36_2, wp_36_2, wr_38, wf_38_0, wp_38_0, wf_38_1, wp_38_1, wf_38_2, wp_38_2, wf_38_3, wp_38_3, wf_38_4, wf_38_5, wf_38_6, wf_38_7, wr_43, wf_43_0, wf_43_1, wp_43_1, wf_43_2, wf_43_3, wf_43_4, wp_43_4, wf_43_5, wp_43_5, wr_48, wf_48_0, wp_48_0, wf_48_1, wp_48_1, wf_48_2, wr_50, wf_50_0, wp_50_0, wf_50_1, wp_50_1, wf_50_2, wr_52, wf_52_0, wp_52_0, wf_52_1, wp_52_1, wf_52_2, wr_54, wf_54_0, wp_54_0, wf_54_1, wp_54_1, wf_54_2, wr_56, wf_56_0, wp_56_0, wf_56_1, wp_56_1, wf_56_2, wr_58, wf_58_0, wp_58_0, wf_58_1, wp_58_1, wf_58_2, wr_60, wf_60_0, wp_60_0, wf_60_1, wp_60_1, wf_60_2, wp_60_2, wf_60_3, wp_60_3, wf_60_4, wf_60_5, wf_60_6, wf_60_7, wf_60_8, wf_60_9, wf_60_10, wf_60_11, wp_60_11, wf_60_12, wf_60_13, wf_60_14, wp_60_14, wf_60_15, wf_60_16, wf_60_17, wp_60_17, wf_60_18, wf_60_19, wp_60_19, wf_60_20, wp_60_20, wf_60_21, wf_60_22, wf_60_23, wp_60_23, wf_60_24, wf_60_25, wf_60_26, wf_60_27, wf_60_28, wf_60_29, wp_60_29, wf_60_30, wf_60_31, wf_60_32, wf_60_33, wf_60_34, wp_60_34, wf_60_35, wf_60_36, wf_60_37, wf_60_38, wp_60_38, wf_60_39, wp_60_39, wf_60_40, wp_60_40, wf_60_41, wp_60_41, ch, e1, b1, b2, b3, bi_0, wa_6 b5, nI_1, isCount_eq]
      cases inB (S.2.2.1 6 (bk p V K T c) + n * sgC c) (-99) 99
      · simp only [Bool.not_false, if_true]
      · simp only [Bool.not_true, reduceCtorEq, Bool.false_eq_true, if_false]) (f := 2000) (by omega)
  simp only [sa_id, nI_0] at l2
  simp only [nI_0] at l1
  unfold J_X5_addTwist
  rw [wr_5, rLet_eq, l1, l2]
  rfl
theorem addTwist31 {S : rSt} {V K T : Nat} {p : Nat → Nat} (hk : Ok3 V K T) (c3 : S.1 2 3 = nI (MB V K)) (cB : IsB V K (S.2.2.1 3) (S.2.2.1 4)) (h1 : S.1 33 1 = nI (T + 1)) (h2 : S.1 33 2 = nI (T + K + 1)) (hp : ∀ i, i < T + K + 1 → S.2.2.1 34 i = nI (p i)) (hv : TwP V (T + K + 1) p) (n : Int32) : J_X5_addTwist 31 33 n (Wd S) = if (rFd (badC p V K T (S.2.2.1 32) n) (2 ^ (T + 1)) 0).isSome = true then some (false, Wd S) else some (true, Wd (sa S 32 (addC p V K T (S.2.2.1 32) n))) := by
  have hM := MB_ok hk
  have hT : T < 3 := by have := hk.2.2.2.1; have := hk.2.2.2.2.2; omega
  have h8 := p2T hT
  have e0 := nI_refl (n := 2 ^ (T + 1)) (by omega)
  have ch := choices33 hT h1
  have bo : ∀ (g : Nat → Int32) c, c < 8 → J_X8_blockOf 33 2 (nI c) (Wd (sa S 32 g)) = some (nI (bk p V K T c)) := by
    intro g c hc
    obtain ⟨s, a1, a2, a3⟩ := blockOf33 (S := sa S 32 g) hk h1 h2 hp hv.1 hc
    have a4 : s = sO p K T c := a2
    rw [a3]
    show some (S.2.2.1 4 s) = _
    rw [cB.2 s a1, a4, nb_sO hk hv]
  have hs : ∀ (g : Nat → Int32) c, c < 8 → J_X0_has 2 (nI (bk p V K T c)) (Wd (sa S 32 g)) = some true := by
    intro g c hc
    rw [has2]
    show some (hasB _ (S.1 2 3)) = _
    rw [c3, (hasB_n (by omega)).mpr ⟨_, (bk_lt hk hv).1, rfl⟩]
  have l2 := loopS (fun f g c => J_X5_addTwist_63 31 33 n f (nI c) (Wd (sa S 32 g))) (fun g => some (true, Wd (sa S 32 g))) (fun c g => upd g (bk p V K T c) (g (bk p V K T c) + n * sgC c)) (2 ^ (T + 1)) (fun f g => by
      have ch' := choices33 (S := sa S 32 g) hT h1
      rw [J_X5_addTwist_63]
      simp only [Nat.reduceEqDiff, Nat.reduceAdd, Nat.reduceMul, reduceCtorEq, if_true, if_false, bs, rLet_eq, rB2_e, reduceIte, wr_0, wf_0_0, wf_0_1, wf_0_2, wp_0_2, wf_0_3, wf_0_4, wf_0_5, wf_0_6, wf_0_7, wf_0_8, wr_1, wf_1_0, wf_1_1, wf_1_2, wf_1_3, wf_1_4, wr_2, wf_2_0, wp_2_0, wf_2_1, wp_2_1, wf_2_2, wp_2_2, wf_2_3, wp_2_3, wf_2_4, wf_2_5, wr_5, wf_5_0, wf_5_1, wf_5_2, wp_5_2, wf_5_3, wp_5_3, wr_7, wf_7_0, wf_7_1, wf_7_2, wp_7_2, wr_10, wf_10_0, wf_10_1, wf_10_2, wp_10_2, wr_13, wf_13_0, wf_13_1, wf_13_2, wp_13_2, wr_16, wf_16_0, wf_16_1, wf_16_2, wf_16_3, wf_16_4, wr_17, wf_17_0, wp_17_0, wf_17_1, wp_17_1, wf_17_2, wp_17_2, wf_17_3, wp_17_3, wf_17_4, wf_17_5, wr_20, wf_20_0, wf_20_1, wf_20_2, wp_20_2, wf_20_3, wp_20_3, wr_22, wf_22_0, wf_22_1, wf_22_2, wp_22_2, wr_25, wf_25_0, wf_25_1, wf_25_2, wp_25_2, wr_28, wf_28_0, wf_28_1, wf_28_2, wp_28_2, wr_31, wf_31_0, wf_31_1, wf_31_2, wp_31_2, wf_31_3, wp_31_3, wr_33, wf_33_0, wf_33_1, wp_33_1, wf_33_2, wp_33_2, wr_35, wf_35_0, wf_35_1, wp_35_1, wf_35_2, wp_35_2, wf_35_3, wp_35_3, wr_36, wf_36_0, wf_36_1, wp_36_1, wf_36_2, wp_36_2, wr_38, wf_38_0, wp_38_0, wf_38_1, wp_38_1, wf_38_2, wp_38_2, wf_38_3, wp_38_3, wf_38_4, wf_38_5, wf_38_6, wf_38_7, wr_43, wf_43_0, wf_43_1, wp_43_1, wf_43_2, wf_43_3, wf_43_4, wp_43_4, wf_43_5, wp_43_5, wr_48, wf_48_0, wp_48_0, wf_48_1, wp_48_1, wf_48_2, wr_50, wf_50_0, wp_50_0, wf_50_1, wp_50_1, wf_50_2, wr_52, wf_52_0, wp_52_0, wf_52_1, wp_52_1, wf_52_2, wr_54, wf_54_0, wp_54_0, wf_54_1, wp_54_1, wf_54_2, wr_56, wf_56_0, wp_56_0, wf_56_1, wp_56_1, wf_56_2, wr_58, wf_58_0, wp_58_0, wf_58_1, wp_58_1, wf_58_2, wr_60, wf_60_0, wp_60_0, wf_60_1, wp_60_1, wf_60_2, wp_60_2, wf_60_3, wp_60_3, wf_60_4, wf_60_5, wf_60_6, wf_60_7, wf_60_8, wf_60_9, wf_60_10, wf_60_11, wp_60_11, wf_60_12, wf_60_13, wf_60_14, wp_60_14, wf_60_15, wf_60_16, wf_60_17, wp_60_17, wf_60_18, wf_60_19, wp_60_19, wf_60_20, wp_60_20, wf_60_21, wf_60_22, wf_60_23, wp_60_23, wf_60_24, wf_60_25, wf_60_26, wf_60_27, wf_60_28, wf_60_29, wp_60_29, wf_60_30, wf_60_31, wf_60_32, wf_60_33, wf_60_34, wp_60_34, wf_60_35, wf_60_36, wf_60_37, wf_60_38, wp_60_38, wf_60_39, wp_60_39, wf_60_40, wp_60_40, wf_60_41, wp_60_41, ch', e0]) (fun f g c hc => by
      have e1 : (nI (2 ^ (T + 1)) ≤ nI c) ↔ False := iff_false_intro (nI_ge hc (by omega))
      have ch' := choices33 (S := sa S 32 g) hT h1
      have b1 := bo g c (by omega)
      have b2 := hs g c (by omega)
      have b3 := fun w => signOf8 (c := c) (by omega) w
      have b4 := (bk_lt (c := c) hk hv).1
      have b5 : bk p V K T c < 56 := by omega
      rw [J_X5_addTwist_63]
      simp only [Nat.reduceEqDiff, Nat.reduceAdd, Nat.reduceMul, reduceCtorEq, if_true, if_false, bs, rLet_eq, rB2_e, reduceIte, wr_0, wf_0_0, wf_0_1, wf_0_2, wp_0_2, wf_0_3, wf_0_4, wf_0_5, wf_0_6, wf_0_7, wf_0_8, wr_1, wf_1_0, wf_1_1, wf_1_2, wf_1_3, wf_1_4, wr_2, wf_2_0, wp_2_0, wf_2_1, wp_2_1, wf_2_2, wp_2_2, wf_2_3, wp_2_3, wf_2_4, wf_2_5, wr_5, wf_5_0, wf_5_1, wf_5_2, wp_5_2, wf_5_3, wp_5_3, wr_7, wf_7_0, wf_7_1, wf_7_2, wp_7_2, wr_10, wf_10_0, wf_10_1, wf_10_2, wp_10_2, wr_13, wf_13_0, wf_13_1, wf_13_2, wp_13_2, wr_16, wf_16_0, wf_16_1, wf_16_2, wf_16_3, wf_16_4, wr_17, wf_17_0, wp_17_0, wf_17_1, wp_17_1, wf_17_2, wp_17_2, wf_17_3, wp_17_3, wf_17_4, wf_17_5, wr_20, wf_20_0, wf_20_1, wf_20_2, wp_20_2, wf_20_3, wp_20_3, wr_22, wf_22_0, wf_22_1, wf_22_2, wp_22_2, wr_25, wf_25_0, wf_25_1, wf_25_2, wp_25_2, wr_28, wf_28_0, wf_28_1, wf_28_2, wp_28_2, wr_31, wf_31_0, wf_31_1, wf_31_2, wp_31_2, wf_31_3, wp_31_3, wr_33, wf_33_0, wf_33_1, wp_33_1, wf_33_2, wp_33_2, wr_35, wf_35_0, wf_35_1, wp_35_1, wf_35_2, wp_35_2, wf_35_3, wp_35_3, wr_36, wf_36_0, wf_36_1, wp_36_1, wf_36_2, wp_36_2, wr_38, wf_38_0, wp_38_0, wf_38_1, wp_38_1, wf_38_2, wp_38_2, wf_38_3, wp_38_3, wf_38_4, wf_38_5, wf_38_6, wf_38_7, wr_43, wf_43_0, wf_43_1, wp_43_1, wf_43_2, wf_43_3, wf_43_4, wp_43_4, wf_43_5, wp_43_5, wr_48, wf_48_0, wp_48_0, wf_48_1, wp_48_1, wf_48_2, wr_50, wf_50_0, wp_50_0, wf_50_1, wp_50_1, wf_50_2, wr_52, wf_52_0, wp_52_0, wf_52_1, wp_52_1, wf_52_2, wr_54, wf_54_0, wp_54_0, wf_54_1, wp_54_1, wf_54_2, wr_56, wf_56_0, wp_56_0, wf_56_1, wp_56_1, wf_56_2, wr_58, wf_58_0, wp_58_0, wf_58_1, wp_58_1, wf_58_2, wr_60, wf_60_0, wp_60_0, wf_60_1, wp_60_1, wf_60_2, wp_60_2, wf_60_3, wp_60_3, wf_60_4, wf_60_5, wf_60_6, wf_60_7, wf_60_8, wf_60_9, wf_60_10, wf_60_11, wp_60_11, wf_60_12, wf_60_13, wf_60_14, wp_60_14, wf_60_15, wf_60_16, wf_60_17, wp_60_17, wf_60_18, wf_60_19, wp_60_19, wf_60_20, wp_60_20, wf_60_21, wf_60_22, wf_60_23, wp_60_23, wf_60_24, wf_60_25, wf_60_26, wf_60_27, wf_60_28, wf_60_29, wp_60_29, wf_60_30, wf_60_31, wf_60_32, wf_60_33, wf_60_34, wp_60_34, wf_60_35, wf_60_36, wf_60_37, wf_60_38, wp_60_38, wf_60_39, wp_60_39, wf_60_40, wp_60_40, wf_60_41, wp_60_41, ch', e1, b1, b2, b3, bi_0, wa_32 b5, wt_32 b5, nI_1, Nat.reduceEqDiff, if_true, if_false, reduceIte, ri_i, ri_2, rl_1, rl_l, rl_3, ra_1, ra_2, ra_a, ra_4, rj_1, rj_2, rj_3, rj_j, sa_ss]) (2 ^ (T + 1)) 2000 (S.2.2.1 32) 0 (by omega) (by omega)
  have l1 := fun K' => loopA (fun f c => J_X5_addTwist_2 31 33 n (Wd S) K' f (nI c)) K' (some (false, Wd S)) (badC p V K T (S.2.2.1 32) n) (2 ^ (T + 1)) (fun f => by
      rw [J_X5_addTwist_2]
      simp only [Nat.reduceEqDiff, Nat.reduceAdd, Nat.reduceMul, reduceCtorEq, if_true, if_false, bs, rLet_eq, rB2_e, reduceIte, wr_0, wf_0_0, wf_0_1, wf_0_2, wp_0_2, wf_0_3, wf_0_4, wf_0_5, wf_0_6, wf_0_7, wf_0_8, wr_1, wf_1_0, wf_1_1, wf_1_2, wf_1_3, wf_1_4, wr_2, wf_2_0, wp_2_0, wf_2_1, wp_2_1, wf_2_2, wp_2_2, wf_2_3, wp_2_3, wf_2_4, wf_2_5, wr_5, wf_5_0, wf_5_1, wf_5_2, wp_5_2, wf_5_3, wp_5_3, wr_7, wf_7_0, wf_7_1, wf_7_2, wp_7_2, wr_10, wf_10_0, wf_10_1, wf_10_2, wp_10_2, wr_13, wf_13_0, wf_13_1, wf_13_2, wp_13_2, wr_16, wf_16_0, wf_16_1, wf_16_2, wf_16_3, wf_16_4, wr_17, wf_17_0, wp_17_0, wf_17_1, wp_17_1, wf_17_2, wp_17_2, wf_17_3, wp_17_3, wf_17_4, wf_17_5, wr_20, wf_20_0, wf_20_1, wf_20_2, wp_20_2, wf_20_3, wp_20_3, wr_22, wf_22_0, wf_22_1, wf_22_2, wp_22_2, wr_25, wf_25_0, wf_25_1, wf_25_2, wp_25_2, wr_28, wf_28_0, wf_28_1, wf_28_2, wp_28_2, wr_31, wf_31_0, wf_31_1, wf_31_2, wp_31_2, wf_31_3, wp_31_3, wr_33, wf_33_0, wf_33_1, wp_33_1, wf_33_2, wp_33_2, wr_35, wf_35_0, wf_35_1, wp_35_1, wf_35_2, wp_35_2, wf_35_3, wp_35_3, wr_36, wf_36_0, wf_36_1, wp_36_1, wf_36_2, wp_36_2, wr_38, wf_38_0, wp_38_0, wf_38_1, wp_38_1, wf_38_2, wp_38_2, wf_38_3, wp_38_3, wf_38_4, wf_38_5, wf_38_6, wf_38_7, wr_43, wf_43_0, wf_43_1, wp_43_1, wf_43_2, wf_43_3, wf_43_4, wp_43_4, wf_43_5, wp_43_5, wr_48, wf_48_0, wp_48_0, wf_48_1, wp_48_1, wf_48_2, wr_50, wf_50_0, wp_50_0, wf_50_1, wp_50_1, wf_50_2, wr_52, wf_52_0, wp_52_0, wf_52_1, wp_52_1, wf_52_2, wr_54, wf_54_0, wp_54_0, wf_54_1, wp_54_1, wf_54_2, wr_56, wf_56_0, wp_56_0, wf_56_1, wp_56_1, wf_56_2, wr_58, wf_58_0, wp_58_0, wf_58_1, wp_58_1, wf_58_2, wr_60, wf_60_0, wp_60_0, wf_60_1, wp_60_1, wf_60_2, wp_60_2, wf_60_3, wp_60_3, wf_60_4, wf_60_5, wf_60_6, wf_60_7, wf_60_8, wf_60_9, wf_60_10, wf_60_11, wp_60_11, wf_60_12, wf_60_13, wf_60_14, wp_60_14, wf_60_15, wf_60_16, wf_60_17, wp_60_17, wf_60_18, wf_60_19, wp_60_19, wf_60_20, wp_60_20, wf_60_21, wf_60_22, wf_60_23, wp_60_23, wf_60_24, wf_60_25, wf_60_26, wf_60_27, wf_60_28, wf_60_29, wp_60_29, wf_60_30, wf_60_31, wf_60_32, wf_60_33, wf_60_34, wp_60_34, wf_60_35, wf_60_36, wf_60_37, wf_60_38, wp_60_38, wf_60_39, wp_60_39, wf_60_40, wp_60_40, wf_60_41, wp_60_41, ch, e0]) (fun f c hc => by
      have e1 : (nI (2 ^ (T + 1)) ≤ nI c) ↔ False := iff_false_intro (nI_ge hc (by omega))
      have b1 := bo (S.2.2.1 32) c (by omega)
      have b2 := hs (S.2.2.1 32) c (by omega)
      rw [sa_id] at b1 b2
      have b3 := signOf8 (c := c) (by omega) (Wd S)
      have b4 := (bk_lt (c := c) hk hv).1
      have b5 : bk p V K T c < 56 := by omega
      rw [J_X5_addTwist_2]
      unfold badC
      simp only [Nat.reduceEqDiff, Nat.reduceAdd, Nat.reduceMul, reduceCtorEq, if_true, if_false, bs, rLet_eq, rB2_e, reduceIte, wr_0, wf_0_0, wf_0_1, wf_0_2, wp_0_2, wf_0_3, wf_0_4, wf_0_5, wf_0_6, wf_0_7, wf_0_8, wr_1, wf_1_0, wf_1_1, wf_1_2, wf_1_3, wf_1_4, wr_2, wf_2_0, wp_2_0, wf_2_1, wp_2_1, wf_2_2, wp_2_2, wf_2_3, wp_2_3, wf_2_4, wf_2_5, wr_5, wf_5_0, wf_5_1, wf_5_2, wp_5_2, wf_5_3, wp_5_3, wr_7, wf_7_0, wf_7_1, wf_7_2, wp_7_2, wr_10, wf_10_0, wf_10_1, wf_10_2, wp_10_2, wr_13, wf_13_0, wf_13_1, wf_13_2, wp_13_2, wr_16, wf_16_0, wf_16_1, wf_16_2, wf_16_3, wf_16_4, wr_17, wf_17_0, wp_17_0, wf_17_1, wp_17_1, wf_17_2, wp_17_2, wf_17_3, wp_17_3, wf_17_4, wf_17_5, wr_20, wf_20_0, wf_20_1, wf_20_2, wp_20_2, wf_20_3, wp_20_3, wr_22, wf_22_0, wf_22_1, wf_22_2, wp_22_2, wr_25, wf_25_0, wf_25_1, wf_25_2, wp_25_2, wr_28, wf_28_0, wf_28_1, wf_28_2, wp_28_2, wr_31, wf_31_0, wf_31_1, wf_31_2, wp_31_2, wf_31_3, wp_31_3, wr_33, wf_33_0, wf_33_1, wp_33_1, wf_33_2, wp_33_2, wr_35, wf_35_0, wf_35_1, wp_35_1, wf_35_2, wp_35_2, wf_35_3, wp_35_3, wr_36, wf_36_0, wf_36_1, wp_36_1, wf_36_2, wp_36_2, wr_38, wf_38_0, wp_38_0, wf_38_1, wp_38_1, wf_38_2, wp_38_2, wf_38_3, wp_38_3, wf_38_4, wf_38_5, wf_38_6, wf_38_7, wr_43, wf_43_0, wf_43_1, wp_43_1, wf_43_2, wf_43_3, wf_43_4, wp_43_4, wf_43_5, wp_43_5, wr_48, wf_48_0, wp_48_0, wf_48_1, wp_48_1, wf_48_2, wr_50, wf_50_0, wp_50_0, wf_50_1, wp_50_1, wf_50_2, wr_52, wf_52_0, wp_52_0, wf_52_1, wp_52_1, wf_52_2, wr_54, wf_54_0, wp_54_0, wf_54_1, wp_54_1, wf_54_2, wr_56, wf_56_0, wp_56_0, wf_56_1, wp_56_1, wf_56_2, wr_58, wf_58_0, wp_58_0, wf_58_1, wp_58_1, wf_58_2, wr_60, wf_60_0, wp_60_0, wf_60_1, wp_60_1, wf_60_2, wp_60_2, wf_60_3, wp_60_3, wf_60_4, wf_60_5, wf_60_6, wf_60_7, wf_60_8, wf_60_9, wf_60_10, wf_60_11, wp_60_11, wf_60_12, wf_60_13, wf_60_14, wp_60_14, wf_60_15, wf_60_16, wf_60_17, wp_60_17, wf_60_18, wf_60_19, wp_60_19, wf_60_20, wp_60_20, wf_60_21, wf_60_22, wf_60_23, wp_60_23, wf_60_24, wf_60_25, wf_60_26, wf_60_27, wf_60_28, wf_60_29, wp_60_29, wf_60_30, wf_60_31, wf_60_32, wf_60_33, wf_60_34, wp_60_34, wf_60_35, wf_60_36, wf_60_37, wf_60_38, wp_60_38, wf_60_39, wp_60_39, wf_60_40, wp_60_40, wf_60_41, wp_60_41, ch, e1, b1, b2, b3, bi_0, wa_32 b5, nI_1, isCount_eq]
      cases inB (S.2.2.1 32 (bk p V K T c) + n * sgC c) (-99) 99
      · simp only [Bool.not_false, if_true]
      · simp only [Bool.not_true, reduceCtorEq, Bool.false_eq_true, if_false]) (f := 2000) (by omega)
  simp only [sa_id, nI_0] at l2
  simp only [nI_0] at l1
  unfold J_X5_addTwist
  rw [wr_31, rLet_eq, l1, l2]
  rfl
theorem take33 {S : rSt} {V K T : Nat} (hk : Ok3 V K T) (c0 : S.1 2 0 = nI V) (c1 : S.1 2 1 = nI K) (c2 : S.1 2 2 = nI T) (x : Int32) : J_X8_take 33 2 x (Wd S) = some (tkOK V (T + K + 1) x, Wd (sa (si (si S 33 1 (nI (T + 1))) 33 2 (nI (T + K + 1))) 34 (tkF V (T + K + 1) x 0 (S.2.2.1 34)).2.2)) := by
  obtain ⟨k1, k2, k3, k4, k5, k6⟩ := hk
  have key : ∀ (S : rSt) (K' : Int32 → rW → Option (Bool × rW)), S.1 2 0 = nI V → ∀ m, m ≤ 6 → ∀ f l u g, m < f → J_X8_take_18 33 2 K' f l u (nI m + (-1)) (Wd (sa S 34 g)) = if (tkF V m l u g).1 = true then K' (tkF V m l u g).2.1 (Wd (sa S 34 (tkF V m l u g).2.2)) else some (false, Wd (sa S 34 (tkF V m l u g).2.2)) := by
    intro S K' c0 m
    induction m with
    | zero =>
      intro _ f l u g hf
      obtain ⟨f, rfl⟩ : ∃ q, f = q + 1 := ⟨f - 1, by omega⟩
      rw [J_X8_take_18, if_pos (by decide), tkF]
      rfl
    | succ m ih =>
      intro hm f l u g hf
      obtain ⟨f, rfl⟩ : ∃ q, f = q + 1 := ⟨f - 1, by omega⟩
      have e1 : nI m < 0 ↔ False := iff_false_intro (nI_pos (by omega))
      have e2 := hasPoint2 (sa S 34 g) (dg l)
      have e3 : (sa S 34 g).1 2 0 = nI V := c0
      rw [e3] at e2
      have e4 : (l - l / 10 * 10) - 1 = dg l := rfl
      have ih1 := ih (by omega) f
      rw [J_X8_take_18, pk_m1, tkF]
      cases h1 : hasB (dg l) (nI V)
      · simp only [Nat.reduceEqDiff, Nat.reduceAdd, Nat.reduceMul, reduceCtorEq, if_true, if_false, bs, rLet_eq, rB2_e, reduceIte, wr_0, wf_0_0, wf_0_1, wf_0_2, wp_0_2, wf_0_3, wf_0_4, wf_0_5, wf_0_6, wf_0_7, wf_0_8, wr_1, wf_1_0, wf_1_1, wf_1_2, wf_1_3, wf_1_4, wr_2, wf_2_0, wp_2_0, wf_2_1, wp_2_1, wf_2_2, wp_2_2, wf_2_3, wp_2_3, wf_2_4, wf_2_5, wr_5, wf_5_0, wf_5_1, wf_5_2, wp_5_2, wf_5_3, wp_5_3, wr_7, wf_7_0, wf_7_1, wf_7_2, wp_7_2, wr_10, wf_10_0, wf_10_1, wf_10_2, wp_10_2, wr_13, wf_13_0, wf_13_1, wf_13_2, wp_13_2, wr_16, wf_16_0, wf_16_1, wf_16_2, wf_16_3, wf_16_4, wr_17, wf_17_0, wp_17_0, wf_17_1, wp_17_1, wf_17_2, wp_17_2, wf_17_3, wp_17_3, wf_17_4, wf_17_5, wr_20, wf_20_0, wf_20_1, wf_20_2, wp_20_2, wf_20_3, wp_20_3, wr_22, wf_22_0, wf_22_1, wf_22_2, wp_22_2, wr_25, wf_25_0, wf_25_1, wf_25_2, wp_25_2, wr_28, wf_28_0, wf_28_1, wf_28_2, wp_28_2, wr_31, wf_31_0, wf_31_1, wf_31_2, wp_31_2, wf_31_3, wp_31_3, wr_33, wf_33_0, wf_33_1, wp_33_1, wf_33_2, wp_33_2, wr_35, wf_35_0, wf_35_1, wp_35_1, wf_35_2, wp_35_2, wf_35_3, wp_35_3, wr_36, wf_36_0, wf_36_1, wp_36_1, wf_36_2, wp_36_2, wr_38, wf_38_0, wp_38_0, wf_38_1, wp_38_1, wf_38_2, wp_38_2, wf_38_3, wp_38_3, wf_38_4, wf_38_5, wf_38_6, wf_38_7, wr_43, wf_43_0, wf_43_1, wp_43_1, wf_43_2, wf_43_3, wf_43_4, wp_43_4, wf_43_5, wp_43_5, wr_48, wf_48_0, wp_48_0, wf_48_1, wp_48_1, wf_48_2, wr_50, wf_50_0, wp_50_0, wf_50_1, wp_50_1, wf_50_2, wr_52, wf_52_0, wp_52_0, wf_52_1, wp_52_1, wf_52_2, wr_54, wf_54_0, wp_54_0, wf_54_1, wp_54_1, wf_54_2, wr_56, wf_56_0, wp_56_0, wf_56_1, wp_56_1, wf_56_2, wr_58, wf_58_0, wp_58_0, wf_58_1, wp_58_1, wf_58_2, wr_60, wf_60_0, wp_60_0, wf_60_1, wp_60_1, wf_60_2, wp_60_2, wf_60_3, wp_60_3, wf_60_4, wf_60_5, wf_60_6, wf_60_7, wf_60_8, wf_60_9, wf_60_10, wf_60_11, wp_60_11, wf_60_12, wf_60_13, wf_60_14, wp_60_14, wf_60_15, wf_60_16, wf_60_17, wp_60_17, wf_60_18, wf_60_19, wp_60_19, wf_60_20, wp_60_20, wf_60_21, wf_60_22, wf_60_23, wp_60_23, wf_60_24, wf_60_25, wf_60_26, wf_60_27, wf_60_28, wf_60_29, wp_60_29, wf_60_30, wf_60_31, wf_60_32, wf_60_33, wf_60_34, wp_60_34, wf_60_35, wf_60_36, wf_60_37, wf_60_38, wp_60_38, wf_60_39, wp_60_39, wf_60_40, wp_60_40, wf_60_41, wp_60_41, e1, jrem10, jdiv10, e4, e2, h1, bi_0, Bool.false_eq_true, false_and]
      · by_cases h2 : ((u >>> (dg l &&& 31)) &&& 1) = 0
        · simp (disch := omega) only [Nat.reduceEqDiff, Nat.reduceAdd, Nat.reduceMul, reduceCtorEq, if_true, if_false, bs, rLet_eq, rB2_e, reduceIte, wr_0, wf_0_0, wf_0_1, wf_0_2, wp_0_2, wf_0_3, wf_0_4, wf_0_5, wf_0_6, wf_0_7, wf_0_8, wr_1, wf_1_0, wf_1_1, wf_1_2, wf_1_3, wf_1_4, wr_2, wf_2_0, wp_2_0, wf_2_1, wp_2_1, wf_2_2, wp_2_2, wf_2_3, wp_2_3, wf_2_4, wf_2_5, wr_5, wf_5_0, wf_5_1, wf_5_2, wp_5_2, wf_5_3, wp_5_3, wr_7, wf_7_0, wf_7_1, wf_7_2, wp_7_2, wr_10, wf_10_0, wf_10_1, wf_10_2, wp_10_2, wr_13, wf_13_0, wf_13_1, wf_13_2, wp_13_2, wr_16, wf_16_0, wf_16_1, wf_16_2, wf_16_3, wf_16_4, wr_17, wf_17_0, wp_17_0, wf_17_1, wp_17_1, wf_17_2, wp_17_2, wf_17_3, wp_17_3, wf_17_4, wf_17_5, wr_20, wf_20_0, wf_20_1, wf_20_2, wp_20_2, wf_20_3, wp_20_3, wr_22, wf_22_0, wf_22_1, wf_22_2, wp_22_2, wr_25, wf_25_0, wf_25_1, wf_25_2, wp_25_2, wr_28, wf_28_0, wf_28_1, wf_28_2, wp_28_2, wr_31, wf_31_0, wf_31_1, wf_31_2, wp_31_2, wf_31_3, wp_31_3, wr_33, wf_33_0, wf_33_1, wp_33_1, wf_33_2, wp_33_2, wr_35, wf_35_0, wf_35_1, wp_35_1, wf_35_2, wp_35_2, wf_35_3, wp_35_3, wr_36, wf_36_0, wf_36_1, wp_36_1, wf_36_2, wp_36_2, wr_38, wf_38_0, wp_38_0, wf_38_1, wp_38_1, wf_38_2, wp_38_2, wf_38_3, wp_38_3, wf_38_4, wf_38_5, wf_38_6, wf_38_7, wr_43, wf_43_0, wf_43_1, wp_43_1, wf_43_2, wf_43_3, wf_43_4, wp_43_4, wf_43_5, wp_43_5, wr_48, wf_48_0, wp_48_0, wf_48_1, wp_48_1, wf_48_2, wr_50, wf_50_0, wp_50_0, wf_50_1, wp_50_1, wf_50_2, wr_52, wf_52_0, wp_52_0, wf_52_1, wp_52_1, wf_52_2, wr_54, wf_54_0, wp_54_0, wf_54_1, wp_54_1, wf_54_2, wr_56, wf_56_0, wp_56_0, wf_56_1, wp_56_1, wf_56_2, wr_58, wf_58_0, wp_58_0, wf_58_1, wp_58_1, wf_58_2, wr_60, wf_60_0, wp_60_0, wf_60_1, wp_60_1, wf_60_2, wp_60_2, wf_60_3, wp_60_3, wf_60_4, wf_60_5, wf_60_6, wf_60_7, wf_60_8, wf_60_9, wf_60_10, wf_60_11, wp_60_11, wf_60_12, wf_60_13, wf_60_14, wp_60_14, wf_60_15, wf_60_16, wf_60_17, wp_60_17, wf_60_18, wf_60_19, wp_60_19, wf_60_20, wp_60_20, wf_60_21, wf_60_22, wf_60_23, wp_60_23, wf_60_24, wf_60_25, wf_60_26, wf_60_27, wf_60_28, wf_60_29, wp_60_29, wf_60_30, wf_60_31, wf_60_32, wf_60_33, wf_60_34, wp_60_34, wf_60_35, wf_60_36, wf_60_37, wf_60_38, wp_60_38, wf_60_39, wp_60_39, wf_60_40, wp_60_40, wf_60_41, wp_60_41, wa_3, wt_3, wa_4, wt_4, wa_6, wt_6, wa_8, wt_8, wa_9, wt_9, wa_11, wt_11, wa_12, wt_12, wa_14, wt_14, wa_15, wt_15, wa_18, wt_18, wa_19, wt_19, wa_21, wt_21, wa_23, wt_23, wa_24, wt_24, wa_26, wt_26, wa_27, wt_27, wa_29, wt_29, wa_30, wt_30, wa_32, wt_32, wa_34, wt_34, wa_37, wt_37, wa_39, wt_39, wa_40, wt_40, wa_41, wt_41, wa_42, wt_42, wa_44, wt_44, wa_45, wt_45, wa_46, wt_46, wa_49, wt_49, wa_51, wt_51, wa_53, wt_53, wa_55, wt_55, wa_57, wt_57, wa_59, wt_59, wa_61, wt_61, wa_62, wt_62, wa_63, wt_63, wa_64, wt_64, wa_65, wt_65, wa_66, wt_66, wa_67, wt_67, wa_68, wt_68, wa_69, wt_69, wa_70, wt_70, wa_71, wt_71, wa_72, wt_72, wa_73, wt_73, wa_74, wt_74, wa_75, wt_75, wa_76, wt_76, wa_77, wt_77, wa_78, wt_78, wa_79, wt_79, wa_80, wt_80, wa_81, wt_81, wa_82, wt_82, wa_83, wt_83, wa_84, wt_84, wa_85, wt_85, wa_86, wt_86, wl_47, Nat.reduceEqDiff, if_true, if_false, reduceIte, ri_i, ri_2, rl_1, rl_l, rl_3, ra_1, ra_2, ra_a, ra_4, rj_1, rj_2, rj_3, rj_j, e1, jrem10, jdiv10, e4, e2, h1, bi_0, h2, sa_ss, ih1, and_self]
        · simp only [Nat.reduceEqDiff, Nat.reduceAdd, Nat.reduceMul, reduceCtorEq, if_true, if_false, bs, rLet_eq, rB2_e, reduceIte, wr_0, wf_0_0, wf_0_1, wf_0_2, wp_0_2, wf_0_3, wf_0_4, wf_0_5, wf_0_6, wf_0_7, wf_0_8, wr_1, wf_1_0, wf_1_1, wf_1_2, wf_1_3, wf_1_4, wr_2, wf_2_0, wp_2_0, wf_2_1, wp_2_1, wf_2_2, wp_2_2, wf_2_3, wp_2_3, wf_2_4, wf_2_5, wr_5, wf_5_0, wf_5_1, wf_5_2, wp_5_2, wf_5_3, wp_5_3, wr_7, wf_7_0, wf_7_1, wf_7_2, wp_7_2, wr_10, wf_10_0, wf_10_1, wf_10_2, wp_10_2, wr_13, wf_13_0, wf_13_1, wf_13_2, wp_13_2, wr_16, wf_16_0, wf_16_1, wf_16_2, wf_16_3, wf_16_4, wr_17, wf_17_0, wp_17_0, wf_17_1, wp_17_1, wf_17_2, wp_17_2, wf_17_3, wp_17_3, wf_17_4, wf_17_5, wr_20, wf_20_0, wf_20_1, wf_20_2, wp_20_2, wf_20_3, wp_20_3, wr_22, wf_22_0, wf_22_1, wf_22_2, wp_22_2, wr_25, wf_25_0, wf_25_1, wf_25_2, wp_25_2, wr_28, wf_28_0, wf_28_1, wf_28_2, wp_28_2, wr_31, wf_31_0, wf_31_1, wf_31_2, wp_31_2, wf_31_3, wp_31_3, wr_33, wf_33_0, wf_33_1, wp_33_1, wf_33_2, wp_33_2, wr_35, wf_35_0, wf_35_1, wp_35_1, wf_35_2, wp_35_2, wf_35_3, wp_35_3, wr_36, wf_36_0, wf_36_1, wp_36_1, wf_36_2, wp_36_2, wr_38, wf_38_0, wp_38_0, wf_38_1, wp_38_1, wf_38_2, wp_38_2, wf_38_3, wp_38_3, wf_38_4, wf_38_5, wf_38_6, wf_38_7, wr_43, wf_43_0, wf_43_1, wp_43_1, wf_43_2, wf_43_3, wf_43_4, wp_43_4, wf_43_5, wp_43_5, wr_48, wf_48_0, wp_48_0, wf_48_1, wp_48_1, wf_48_2, wr_50, wf_50_0, wp_50_0, wf_50_1, wp_50_1, wf_50_2, wr_52, wf_52_0, wp_52_0, wf_52_1, wp_52_1, wf_52_2, wr_54, wf_54_0, wp_54_0, wf_54_1, wp_54_1, wf_54_2, wr_56, wf_56_0, wp_56_0, wf_56_1, wp_56_1, wf_56_2, wr_58, wf_58_0, wp_58_0, wf_58_1, wp_58_1, wf_58_2, wr_60, wf_60_0, wp_60_0, wf_60_1, wp_60_1, wf_60_2, wp_60_2, wf_60_3, wp_60_3, wf_60_4, wf_60_5, wf_60_6, wf_60_7, wf_60_8, wf_60_9, wf_60_10, wf_60_11, wp_60_11, wf_60_12, wf_60_13, wf_60_14, wp_60_14, wf_60_15, wf_60_16, wf_60_17, wp_60_17, wf_60_18, wf_60_19, wp_60_19, wf_60_20, wp_60_20, wf_60_21, wf_60_22, wf_60_23, wp_60_23, wf_60_24, wf_60_25, wf_60_26, wf_60_27, wf_60_28, wf_60_29, wp_60_29, wf_60_30, wf_60_31, wf_60_32, wf_60_33, wf_60_34, wp_60_34, wf_60_35, wf_60_36, wf_60_37, wf_60_38, wp_60_38, wf_60_39, wp_60_39, wf_60_40, wp_60_40, wf_60_41, wp_60_41, e1, jrem10, jdiv10, e4, e2, h1, bi_0, h2, and_false, Bool.false_eq_true]
  unfold J_X8_take
  have b1 := becomeFor33 (S := S) k4 k6 c1 c2
  have k0 := fun K' => key (si (si S 33 1 (nI (T + 1))) 33 2 (nI (T + K + 1))) K' c0 (T + K + 1) (by omega) 2000 x 0 (S.2.2.1 34) (by omega)
  have e5 : sa (si (si S 33 1 (nI (T + 1))) 33 2 (nI (T + K + 1))) 34 (S.2.2.1 34) = si (si S 33 1 (nI (T + 1))) 33 2 (nI (T + K + 1)) := sa_id (si (si S 33 1 (nI (T + 1))) 33 2 (nI (T + K + 1))) 34
  rw [e5] at k0
  simp only [Nat.reduceEqDiff, Nat.reduceAdd, Nat.reduceMul, reduceCtorEq, if_true, if_false, bs, rLet_eq, rB2_e, reduceIte, wr_0, wf_0_0, wf_0_1, wf_0_2, wp_0_2, wf_0_3, wf_0_4, wf_0_5, wf_0_6, wf_0_7, wf_0_8, wr_1, wf_1_0, wf_1_1, wf_1_2, wf_1_3, wf_1_4, wr_2, wf_2_0, wp_2_0, wf_2_1, wp_2_1, wf_2_2, wp_2_2, wf_2_3, wp_2_3, wf_2_4, wf_2_5, wr_5, wf_5_0, wf_5_1, wf_5_2, wp_5_2, wf_5_3, wp_5_3, wr_7, wf_7_0, wf_7_1, wf_7_2, wp_7_2, wr_10, wf_10_0, wf_10_1, wf_10_2, wp_10_2, wr_13, wf_13_0, wf_13_1, wf_13_2, wp_13_2, wr_16, wf_16_0, wf_16_1, wf_16_2, wf_16_3, wf_16_4, wr_17, wf_17_0, wp_17_0, wf_17_1, wp_17_1, wf_17_2, wp_17_2, wf_17_3, wp_17_3, wf_17_4, wf_17_5, wr_20, wf_20_0, wf_20_1, wf_20_2, wp_20_2, wf_20_3, wp_20_3, wr_22, wf_22_0, wf_22_1, wf_22_2, wp_22_2, wr_25, wf_25_0, wf_25_1, wf_25_2, wp_25_2, wr_28, wf_28_0, wf_28_1, wf_28_2, wp_28_2, wr_31, wf_31_0, wf_31_1, wf_31_2, wp_31_2, wf_31_3, wp_31_3, wr_33, wf_33_0, wf_33_1, wp_33_1, wf_33_2, wp_33_2, wr_35, wf_35_0, wf_35_1, wp_35_1, wf_35_2, wp_35_2, wf_35_3, wp_35_3, wr_36, wf_36_0, wf_36_1, wp_36_1, wf_36_2, wp_36_2, wr_38, wf_38_0, wp_38_0, wf_38_1, wp_38_1, wf_38_2, wp_38_2, wf_38_3, wp_38_3, wf_38_4, wf_38_5, wf_38_6, wf_38_7, wr_43, wf_43_0, wf_43_1, wp_43_1, wf_43_2, wf_43_3, wf_43_4, wp_43_4, wf_43_5, wp_43_5, wr_48, wf_48_0, wp_48_0, wf_48_1, wp_48_1, wf_48_2, wr_50, wf_50_0, wp_50_0, wf_50_1, wp_50_1, wf_50_2, wr_52, wf_52_0, wp_52_0, wf_52_1, wp_52_1, wf_52_2, wr_54, wf_54_0, wp_54_0, wf_54_1, wp_54_1, wf_54_2, wr_56, wf_56_0, wp_56_0, wf_56_1, wp_56_1, wf_56_2, wr_58, wf_58_0, wp_58_0, wf_58_1, wp_58_1, wf_58_2, wr_60, wf_60_0, wp_60_0, wf_60_1, wp_60_1, wf_60_2, wp_60_2, wf_60_3, wp_60_3, wf_60_4, wf_60_5, wf_60_6, wf_60_7, wf_60_8, wf_60_9, wf_60_10, wf_60_11, wp_60_11, wf_60_12, wf_60_13, wf_60_14, wp_60_14, wf_60_15, wf_60_16, wf_60_17, wp_60_17, wf_60_18, wf_60_19, wp_60_19, wf_60_20, wp_60_20, wf_60_21, wf_60_22, wf_60_23, wp_60_23, wf_60_24, wf_60_25, wf_60_26, wf_60_27, wf_60_28, wf_60_29, wp_60_29, wf_60_30, wf_60_31, wf_60_32, wf_60_33, wf_60_34, wp_60_34, wf_60_35, wf_60_36, wf_60_37, wf_60_38, wp_60_38, wf_60_39, wp_60_39, wf_60_40, wp_60_40, wf_60_41, wp_60_41, b1, Nat.reduceEqDiff, if_true, if_false, reduceIte, ri_i, ri_2, rl_1, rl_l, rl_3, ra_1, ra_2, ra_a, ra_4, rj_1, rj_2, rj_3, rj_j, sub_1, k0]
  rw [← tk_ok2 V (T + K + 1) x (S.2.2.1 34)]
  cases (tkF V (T + K + 1) x 0 (S.2.2.1 34)).1
  · rfl
  · by_cases h : (tkF V (T + K + 1) x 0 (S.2.2.1 34)).2.1 = 0
    · simp only [h, if_true, decide_true, Bool.and_self]
    · simp only [h, if_true, if_false, decide_false, Bool.and_false]

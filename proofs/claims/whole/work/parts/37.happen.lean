/-! WHAT HAPPENS -/
def hE (S S1 : rSt) : Prop := (∀ a k, a ≠ 33 → S1.1 a k = S.1 a k) ∧ (∀ a k, a ≠ 31 → S1.2.1 a k = S.2.1 a k) ∧ (∀ a, a ≠ 32 → a ≠ 34 → S1.2.2.1 a = S.2.2.1 a) ∧ S1.2.2.2 = S.2.2.2
def hF (M M1 : rSt) : Prop := M1.1 = M.1 ∧ M1.2.1 = M.2.1 ∧ (∀ a, a ≠ 63 → a ≠ 64 → a ≠ 80 → a ≠ 81 → M1.2.2.1 a = M.2.2.1 a) ∧ M1.2.2.2 = M.2.2.2
theorem hE_r (S : rSt) : hE S S := ⟨fun _ _ _ => rfl, fun _ _ _ => rfl, fun _ _ _ => rfl, rfl⟩
theorem hF_r (S : rSt) : hF S S := ⟨rfl, rfl, fun _ _ _ _ _ => rfl, rfl⟩
theorem hE_t {S S1 S2 : rSt} (h : hE S S1) (g : hE S1 S2) : hE S S2 := ⟨fun a k ha => (g.1 a k ha).trans (h.1 a k ha), fun a k ha => (g.2.1 a k ha).trans (h.2.1 a k ha), fun a h1 h2 => (g.2.2.1 a h1 h2).trans (h.2.2.1 a h1 h2), g.2.2.2.trans h.2.2.2⟩
theorem hF_t {S S1 S2 : rSt} (h : hF S S1) (g : hF S1 S2) : hF S S2 := ⟨g.1.trans h.1, g.2.1.trans h.2.1, fun a h1 h2 h3 h4 => (g.2.2.1 a h1 h2 h3 h4).trans (h.2.2.1 a h1 h2 h3 h4), g.2.2.2.trans h.2.2.2⟩
theorem hE_32 (S : rSt) (f : Nat → Int32) : hE S (sa S 32 f) := ⟨fun _ _ _ => rfl, fun _ _ _ => rfl, fun a h1 h2 => by rw [ra_a, if_neg h1], rfl⟩
theorem hE_31 (S : rSt) (k : Nat) (x : Int64) : hE S (sl S 31 k x) := ⟨fun _ _ _ => rfl, fun a j h1 => by rw [rl_l, if_neg h1], fun _ _ _ => rfl, rfl⟩
theorem hE_tk (V K T : Nat) (x : Int32) (S : rSt) : hE S (tkS V K T x S) := ⟨fun a k h1 => by rw [ra_1, ri_i, if_neg h1, ri_i, if_neg h1], fun _ _ _ => rfl, fun a h1 h2 => by rw [ra_a, if_neg h2]; rfl, rfl⟩
theorem hF_63 (S : rSt) (f : Nat → Int32) : hF S (sa S 63 f) := ⟨rfl, rfl, fun a h1 h2 h3 h4 => by rw [ra_a, if_neg h1], rfl⟩
theorem hF_64 (S : rSt) (f : Nat → Int32) : hF S (sa S 64 f) := ⟨rfl, rfl, fun a h1 h2 h3 h4 => by rw [ra_a, if_neg h2], rfl⟩
theorem hF_tw (S : rSt) (f g : Nat → Int32) : hF S (sa (sa S 80 f) 81 g) := ⟨rfl, rfl, fun a h1 h2 h3 h4 => by rw [ra_a, if_neg h4, ra_a, if_neg h3], rfl⟩
/-- the later row and the model's own -/
def Raf (V K T : Nat) (S M : rSt) : Prop := Rsz V K T S M ∧ RSt (MB V K) (S.2.2.1 32) (S.2.1 31 2) (S.2.1 31 3) (M.2.2.1 63) (M.2.2.1 64) (M.2.2.1 65)
theorem bi_not (b : Bool) : (1 : Int32) - bi b = bi (!b) := by cases b <;> decide
theorem inB_inc {x : Int32} (h : inB x (-99) 99 = true) (h2 : ¬ 99 ≤ x) : inB (x + 1) (-99) 99 = true := by
  unfold inB at *
  simp only [Bool.and_eq_true, Bool.not_eq_true', decide_eq_false_iff_not, Int32.lt_iff_toInt_lt] at *
  rw [Int32.le_iff_toInt_le] at h2
  have h1 : (-99 : Int32).toInt = -99 := rfl
  have h3 : (99 : Int32).toInt = 99 := rfl
  rw [h1, h3] at h ⊢
  rw [h3] at h2
  have h4 : (x + 1).toInt = x.toInt + 1 := by
    rw [Int32.toInt_add]
    have : (1 : Int32).toInt = 1 := rfl
    rw [this]
    exact Int.bmod_eq_of_le (by omega) (by omega)
  omega
theorem happen_ok {V K T : Nat} {S M : rSt} (h : Raf V K T S M) {x y : Int32} (hx : inB x 0 4 = true) : ∃ S1 M1, J_X9_happen 0 x y (Wd S) = some (Wd S1) ∧ J_X10_happens 60 x y (Wd M) = some (Wd M1) ∧ Raf V K T S1 M1 ∧ hE S S1 ∧ hF M M1 := by
  obtain ⟨hsz, hst⟩ := id h
  obtain ⟨⟨hk, c0, c1, c2, c3, cB⟩, q2, m0, m1, m2, m3, mB⟩ := id hsz
  have hM := MB_ok hk
  obtain ⟨k1, k2, k3, k4, k5, k6⟩ := id hk
  have e1 := has2 S y
  rw [c3] at e1
  have e2 := isBlock60 m3 (by omega) hM.2 y
  unfold J_X9_happen J_X10_happens
  rw [wr_0, wr_60]
  rcases small5 hx with rfl | rfl | rfl | rfl | rfl
  · rw [if_pos rfl, if_pos rfl]
    have e3 := take33 hk c0 c1 c2 y
    obtain ⟨s, g, e4, e5⟩ := twists60 hk m0 m1 m2 m3 mB y
    rw [wf_0_4, bs, wf_0_0, bs, wf_1_0, bs, e3, rB2_e, e4, rB2_e]
    cases hb : tkOK V (T + K + 1) y
    · exact ⟨tkS V K T y S, sa (sa M 80 s) 81 g, by rw [if_pos (by decide)], by rw [if_pos (by decide)], h, hE_tk V K T y S, hF_tw M s g⟩
    · obtain ⟨hv, hp⟩ := tk_all k2 y hb
      have e6 := addTwist31 (S := tkS V K T y S) hk c3 cB rfl rfl (hp (S.2.2.1 34)) hv 1
      have e7 := adds60 (M := sa (sa M 80 s) 81 g) m3 hM.2 1
      have g5 : (sa (sa M 80 s) 81 g).2.2.1 80 = s := rfl
      have g6 : (sa (sa M 80 s) 81 g).2.2.1 63 = M.2.2.1 63 := rfl
      have g7 : (tkS V K T y S).2.2.1 32 = S.2.2.1 32 := rfl
      have bd := tw_bad hk hv (S.2.2.1 32) (M.2.2.1 63) s 1 (e5 hb) (fun j hj => ⟨(hst.1 j (by omega)).1, (hst.1 j (by omega)).2.2.2⟩)
      rw [g5, g6, bd] at e7
      rw [g7] at e6
      rw [if_neg (by decide), if_neg (by decide), wf_0_3, bs, wf_0_4, bs, e6, e7]
      cases hb2 : (rFd (badC (tkP V (T + K + 1) y) V K T (S.2.2.1 32) 1) (2 ^ (T + 1)) 0).isSome
      · rw [if_neg (by decide), if_neg (by decide), rB2_e, rB2_e, if_neg (by decide)]
        refine ⟨_, _, rfl, rfl, ⟨hsz, RSt_row (g := addC (tkP V (T + K + 1) y) V K T (S.2.2.1 32) 1) (g' := (fun j => if j < MB V K then M.2.2.1 63 j + 1 * s j else M.2.2.1 63 j)) hst (fun b hb' => ⟨tw_both hk hv (e5 hb) (fun b hb => (hst.1 b hb).1) b hb', ?_⟩) (fun b hb1 hb2 => ?_)⟩, hE_t (hE_tk V K T y S) (hE_32 _ _), hF_t (hF_tw M s g) (hF_63 _ _)⟩
        · by_cases hbm : b < MB V K
          · exact addC_in hk hv (fun j hj => (hst.1 j (by omega)).2.2.2) hb2 b hbm
          · rw [(tw_add hk hv (S.2.2.1 32) 1 (fun _ => 0) (fun _ _ => rfl)).2.1 b (by omega)]
            exact (hst.1 b hb').2.2.2
        · rw [(tw_add hk hv (S.2.2.1 32) 1 (fun _ => 0) (fun _ _ => rfl)).2.1 b hb1]
          exact (hst.2 b hb1).2.2 hb2
      · rw [if_pos rfl, if_pos rfl, rB2_e, rB2_e, if_pos (by decide)]
        exact ⟨_, _, rfl, rfl, h, hE_tk V K T y S, hF_tw M s g⟩
  · rw [if_neg (by decide), if_pos rfl, if_neg (by decide), if_pos rfl]
    have e3 := changeSigns31 c3 hM.2
    have e4 := happens60_52 m3 hM.2
    rw [wf_0_3, bs, e3, bs, e4]
    refine ⟨_, _, rfl, rfl, ⟨hsz, RSt_row (g := negR (S.2.2.1 32) (MB V K)) (g' := negR (M.2.2.1 63) (MB V K)) hst (fun b hb => ⟨?_, ?_⟩) (fun b hb hb' => ?_)⟩, hE_32 _ _, hF_63 _ _⟩
    · unfold negR
      rw [(hst.1 b hb).1]
    · unfold negR
      split
      · exact inB_neg (hst.1 b hb).2.2.2
      · exact (hst.1 b hb).2.2.2
    · unfold negR
      rw [if_neg (by omega)]
      exact (hst.2 b hb).2.2 hb'
  · rw [if_neg (by decide), if_neg (by decide), if_pos rfl, if_neg (by decide), if_neg (by decide), if_pos rfl]
    have e3 := mayBe31 c3 hM.2 c0 k2 c2 (by omega)
    have e4 : J_X10_maySwap 60 (Wd M) = some (msB (tb (S.2.1 31 2)) (S.2.2.1 3) (S.2.2.1 32) V T (MB V K)) := by
      rw [maySwap60 m3 hM.2 m0 k2 m2 (by omega), ← ms_same (d := tb (S.2.1 31 2)) (fun j hj => (hst.1 j (by omega)).2.1)]
      congr 1
      exact msB_c (fun j hj => by rw [mB.1 j hj, cB.1 j hj]) (fun j hj => (hst.1 j (by omega)).1)
    simp only [wf_0_3, bs, e3, e4]
    cases hb : msB (tb (S.2.1 31 2)) (S.2.2.1 3) (S.2.2.1 32) V T (MB V K)
    · exact ⟨S, M, by rw [if_pos (by decide)], by rw [if_pos (by decide)], h, hE_r S, hF_r M⟩
    · have e5 := swapBy31 c3 hM.2
      have e6 := swaps60 m3 hM.2
      rw [if_neg (by decide), if_neg (by decide), e5, bs, e6, bs]
      refine ⟨_, _, rfl, rfl, ⟨hsz, RSt_des hst (fun b hb' => ?_) (fun b hb' => ?_)⟩, hE_31 _ _ _, hF_64 _ _⟩
      · show addR (M.2.2.1 64) (M.2.2.1 63) (MB V K) b = bi (tb (swD (S.2.2.1 32) (MB V K) (S.2.1 31 2)) b)
        rw [tb_swD _ (by omega)]
        unfold addR
        have hs := hst.1 b hb'
        by_cases hb2 : b < MB V K
        · rw [if_pos hb2, hs.1, hs.2.1]
          rcases msB_use hb hb2 with h3 | h3
          · rw [h3]
            simp only [decide_true, Bool.not_true, Bool.and_false, Bool.xor_false, Int32.add_zero]
          · rw [h3]
            simp only [hb2, decide_true, Bool.true_and]
            cases tb (S.2.1 31 2) b <;> rfl
        · rw [if_neg hb2, hs.2.1]
          simp only [hb2, decide_false, Bool.false_and, Bool.xor_false]
      · show tb (swD (S.2.2.1 32) (MB V K) (S.2.1 31 2)) b = false
        rw [tb_swD _ (by omega), (hst.2 b hb').1]
        have : ¬ b < MB V K := by omega
        simp only [this, decide_false, Bool.false_and, Bool.xor_false]
  · rw [if_neg (by decide), if_neg (by decide), if_neg (by decide), if_pos rfl, if_neg (by decide), if_neg (by decide), if_neg (by decide), if_pos rfl]
    simp only [wf_0_0, bs, wf_1_0, e1, e2, wf_0_3, wf_60_7]
    cases hb : hasB y (nI (MB V K))
    · exact ⟨S, M, by rw [if_pos (by decide)], by rw [if_pos (by decide)], h, hE_r S, hF_r M⟩
    · obtain ⟨j, hj, rfl⟩ := (hasB_n (by omega)).mp hb
      have j56 : j < 56 := by omega
      rw [if_neg (by decide), if_neg (by decide), toggle31, bs, wa_64 j56, bs, wt_64 j56, bs, (hst.1 j j56).2.1, bi_not]
      refine ⟨_, _, rfl, rfl, ⟨hsz, RSt_des hst (fun b hb' => ?_) (fun b hb' => ?_)⟩, hE_31 _ _ _, hF_64 _ _⟩
      · show upd (M.2.2.1 64) j (bi (!tb (S.2.1 31 2) j)) b = bi (tb (tog (S.2.1 31 2) j) b)
        rw [tb_tog (by omega)]
        by_cases hbj : b = j
        · rw [hbj, up_s, if_pos rfl]
        · rw [up_n hbj, if_neg hbj]
          exact (hst.1 b hb').2.1
      · show tb (tog (S.2.1 31 2) j) b = false
        rw [tb_tog (by omega), if_neg (by omega)]
        exact (hst.2 b hb').1
  · rw [if_neg (by decide), if_neg (by decide), if_neg (by decide), if_neg (by decide), if_pos rfl, if_neg (by decide), if_neg (by decide), if_neg (by decide), if_neg (by decide)]
    simp only [wf_0_0, bs, wf_1_0, e1, e2, wf_0_3, wf_31_1, wf_60_6]
    cases hb : hasB y (nI (MB V K))
    · exact ⟨S, M, by rw [if_pos (by decide)], by rw [if_pos (by decide)], h, hE_r S, hF_r M⟩
    · obtain ⟨j, hj, rfl⟩ := (hasB_n (by omega)).mp hb
      have j56 : j < 56 := by omega
      rw [if_neg (by decide), if_neg (by decide)]
      simp only [wa_32 j56, wa_63 j56, bs, wt_32 j56, wt_63 j56, (hst.1 j j56).1]
      by_cases h99 : 99 ≤ S.2.2.1 32 j
      · exact ⟨S, M, by rw [if_pos h99], by rw [if_pos h99], h, hE_r S, hF_r M⟩
      · rw [if_neg h99, if_neg h99]
        refine ⟨_, _, rfl, rfl, ⟨hsz, RSt_row (g := upd (S.2.2.1 32) j (S.2.2.1 32 j + 1)) (g' := upd (M.2.2.1 63) j (S.2.2.1 32 j + 1)) hst (fun b hb' => ?_) (fun b hb1 hb2 => ?_)⟩, hE_32 _ _, hF_63 _ _⟩
        · by_cases hbj : b = j
          · rw [hbj, up_s, up_s]
            exact ⟨rfl, inB_inc (hst.1 j j56).2.2.2 h99⟩
          · rw [up_n hbj, up_n hbj]
            exact ⟨(hst.1 b hb').1, (hst.1 b hb').2.2.2⟩
        · rw [up_n (by omega)]
          exact (hst.2 b hb1).2.2 hb2
theorem Raf_e {V K T : Nat} {S S1 M M1 : rSt} (h : Raf V K T S M) (g1 : ∀ k, S1.1 2 k = S.1 2 k) (g2 : S1.2.2.1 3 = S.2.2.1 3) (g3 : S1.2.2.1 4 = S.2.2.1 4) (g4 : S1.2.2.1 32 = S.2.2.1 32) (g5 : ∀ k, S1.2.1 31 k = S.2.1 31 k) (f1 : M1.1 = M.1) (f2 : ∀ a, a = 61 ∨ a = 62 ∨ a = 63 ∨ a = 64 ∨ a = 65 → M1.2.2.1 a = M.2.2.1 a) : Raf V K T S1 M1 := by
  unfold Raf Rsz at *
  rw [g1, g1, g1, g1, g2, g3, g4, g5, g5, f1, f2 61 (by decide), f2 62 (by decide), f2 63 (by decide), f2 64 (by decide), f2 65 (by decide)]
  exact h
/-- all that was told by hand -/
theorem hap_all {V K T n : Nat} (hn8 : n ≤ 8) : ∀ m f i S M, i + m = n → m < f → Raf V K T S M → S.1 10 2 = nI n → M.1 60 14 = nI n → (∀ j, j < n → M.2.2.1 68 j = S.2.2.1 11 j ∧ M.2.2.1 69 j = S.2.2.1 12 j ∧ inB (S.2.2.1 11 j) 0 4 = true) → ∃ S1 M1, (∀ K', J_X9_after_27 0 K' f (nI i) (Wd S) = K' (Wd S1)) ∧ (∀ K', J_X10_after_24 60 K' f (nI i) (Wd M) = K' (Wd M1)) ∧ Raf V K T S1 M1 ∧ hE S S1 ∧ hF M M1 := by
  have e0 := nI_refl (n := n) (by omega)
  intro m
  induction m with
  | zero =>
    intro f i S M hi hf h s1 t1 hr
    obtain ⟨f, rfl⟩ : ∃ k, f = k + 1 := ⟨f - 1, by omega⟩
    have : i = n := by omega
    subst this
    refine ⟨S, M, fun K' => ?_, fun K' => ?_, h, hE_r S, hF_r M⟩
    · rw [J_X9_after_27, wf_0_0, bs, wf_1_3, bs, wf_10_2, bs, s1, if_pos e0]
    · rw [J_X10_after_24, wf_60_14, bs, t1, if_pos e0]
  | succ m ih =>
    intro f i S M hi hf h s1 t1 hr
    obtain ⟨f, rfl⟩ : ∃ k, f = k + 1 := ⟨f - 1, by omega⟩
    have e1 : ¬ nI n ≤ nI i := nI_ge (by omega) (by omega)
    have i8 : i < 8 := by omega
    obtain ⟨r1, r2, r3⟩ := hr i (by omega)
    obtain ⟨S1, M1, a1, a2, a3, a4, a5⟩ := happen_ok h (y := S.2.2.1 12 i) r3
    have b1 : S1.1 10 2 = nI n := (a4.1 10 2 (by decide)).trans s1
    have b2 : M1.1 60 14 = nI n := (congrFun (congrFun a5.1 60) 14).trans t1
    have b3 : ∀ j, j < n → M1.2.2.1 68 j = S1.2.2.1 11 j ∧ M1.2.2.1 69 j = S1.2.2.1 12 j ∧ inB (S1.2.2.1 11 j) 0 4 = true := by
      intro j hj
      rw [a5.2.2.1 68 (by decide) (by decide) (by decide) (by decide), a5.2.2.1 69 (by decide) (by decide) (by decide) (by decide), a4.2.2.1 11 (by decide) (by decide), a4.2.2.1 12 (by decide) (by decide)]
      exact hr j hj
    obtain ⟨S2, M2, d1, d2, d3, d4, d5⟩ := ih f (i + 1) S1 M1 (by omega) (by omega) a3 b1 b2 b3
    refine ⟨S2, M2, fun K' => ?_, fun K' => ?_, d3, hE_t a4 d4, hF_t a5 d5⟩
    · rw [J_X9_after_27]
      simp only [wf_0_0, bs, wf_1_3, wf_10_2, s1, e1, if_false, wf_10_0, wa_11 i8, wf_10_1, wa_12 i8, a1, rLet_eq, nI_1, d1]
    · rw [J_X10_after_24]
      simp only [wf_60_14, bs, t1, e1, if_false, wf_60_12, wa_68 i8, wf_60_13, wa_69 i8, r1, r2, a2, rLet_eq, nI_1, d2]

/-! OPEN TWISTS -/
def numP (p : Nat → Nat) : Nat → Nat
  | 0 => 0
  | m + 1 => 10 * numP p m + (p m + 1)
theorem numP_lt {p : Nat → Nat} : ∀ m, (∀ j, j < m → p j < 8) → numP p m < 10 ^ m := by
  intro m
  induction m with
  | zero => intro _; show 0 < 1; decide
  | succ m ih =>
    intro h
    have h1 := ih (fun j hj => h j (by omega))
    have h2 := h m (by omega)
    rw [numP, Nat.pow_succ]
    omega
theorem p10 {m : Nat} (h : m ≤ 6) : 10 ^ m ≤ 1000000 := by
  have : m = 0 ∨ m = 1 ∨ m = 2 ∨ m = 3 ∨ m = 4 ∨ m = 5 ∨ m = 6 := by omega
  rcases this with rfl | rfl | rfl | rfl | rfl | rfl | rfl <;> decide
theorem rem10 {a : Nat} (h : a < 2 ^ 31) : nI a - nI a / 10 * 10 = nI (a % 10) := pk_rem h (d := 10) (by decide) (by decide)
theorem div10 {a : Nat} (h : a < 2 ^ 31) : nI a / 10 = nI (a / 10) := pk_div h (d := 10) (by decide) (by decide)
theorem tk_num {V n : Nat} (hV : V ≤ 8) (hn : n ≤ 6) {p : Nat → Nat} (hp : TwP V n p) : ∀ m U g, m ≤ n → U < 256 → (∀ x, x < 8 → U / 2 ^ x % 2 = 1 → ∃ j, m ≤ j ∧ j < n ∧ p j = x) → (tkF V m (nI (numP p m)) (nI U) g).1 = true ∧ (tkF V m (nI (numP p m)) (nI U) g).2.1 = 0 ∧ (∀ j, j < m → (tkF V m (nI (numP p m)) (nI U) g).2.2 j = nI (p j)) ∧ ∀ j, m ≤ j → (tkF V m (nI (numP p m)) (nI U) g).2.2 j = g j := by
  intro m
  induction m with
  | zero => intro U g _ _ _; exact ⟨rfl, nI_0, fun j hj => absurd hj (Nat.not_lt_zero j), fun _ _ => rfl⟩
  | succ m ih =>
    intro U g hm hU hu
    have pm := hp.1 m (by omega)
    have l1 := numP_lt (p := p) (m + 1) (fun j hj => by have := hp.1 j (by omega); omega)
    have l2 := p10 (show m + 1 ≤ 6 by omega)
    have e1 : dg (nI (numP p (m + 1))) = nI (p m) := by
      unfold dg
      rw [rem10 (by omega), nI_prd (by rw [numP]; omega)]
      exact congrArg nI (by rw [numP]; omega)
    have e2 : nI (numP p (m + 1)) / 10 = nI (numP p m) := by
      rw [div10 (by omega)]
      exact congrArg nI (by rw [numP]; omega)
    obtain ⟨b1, b2, b3⟩ := bt_or U hU (p m) (by omega)
    have u0 : U / 2 ^ p m % 2 = 0 := by
      have h : ¬ U / 2 ^ p m % 2 = 1 := fun h => by
        obtain ⟨j, h1, h2, h3⟩ := hu (p m) (by omega) h
        have := hp.2 j m h2 (by omega) h3
        omega
      omega
    have c : hasB (nI (p m)) (nI V) = true ∧ ((nI U >>> (nI (p m) &&& 31)) &&& 1) = 0 := ⟨(hasB_n (by omega)).mpr ⟨p m, pm, rfl⟩, by rw [b3, u0]; rfl⟩
    rw [tkF, e1, if_pos c, b1, e2]
    have bits : ∀ U, U < 256 → ∀ q, q < 8 → ∀ x, x < 8 → (decide ((U ||| 2 ^ q) / 2 ^ x % 2 = 1) = (decide (x = q) || decide (U / 2 ^ x % 2 = 1))) := by decide +kernel
    obtain ⟨i1, i2, i3, i4⟩ := ih (U ||| 2 ^ p m) (upd g m (nI (p m))) (by omega) b2 (fun x hx h => by
      have := bits U hU (p m) (by omega) x hx
      rw [decide_eq_true h, eq_comm, Bool.or_eq_true, decide_eq_true_eq, decide_eq_true_eq] at this
      rcases this with h1 | h1
      · exact ⟨m, Nat.le_refl _, by omega, h1.symm⟩
      · obtain ⟨j, h2, h3, h4⟩ := hu x hx h1
        exact ⟨j, by omega, h3, h4⟩)
    refine ⟨i1, i2, fun j hj => ?_, fun j hj => ?_⟩
    · by_cases hjm : j = m
      · subst hjm
        rw [i4 j (Nat.le_refl _), up_s]
      · exact i3 j (by omega)
    · rw [i4 j (by omega), up_n (by omega)]
theorem tk_num2 {V n : Nat} (hV : V ≤ 8) (hn : n ≤ 6) {p : Nat → Nat} (hp : TwP V n p) : tkOK V n (nI (numP p n)) = true ∧ ∀ j, j < n → tkP V n (nI (numP p n)) j = p j := by
  have z : ∀ x, x < 8 → 0 / 2 ^ x % 2 = 1 → ∃ j, n ≤ j ∧ j < n ∧ p j = x := fun x _ h => by
    rw [Nat.zero_div] at h
    cases h
  obtain ⟨h1, h2, h3, -⟩ := tk_num hV hn hp n 0 (fun _ => 0) (Nat.le_refl _) (by decide) z
  rw [nI_0] at h1 h2 h3
  refine ⟨?_, fun j hj => ?_⟩
  · unfold tkOK
    rw [h1, h2]
    rfl
  · unfold tkP
    rw [h3 j hj, nI_clamp (by have := hp.1 j hj; omega)]
/-- a choice that doesn't fit, by so many times -/
def opB (p : Nat → Nat) (V K T : Nat) (d : Nat → Bool) (by' : Int32) (c : Nat) : Bool := !decide (d (bk p V K T c) = decide (by' * sgC c < 0))
def opS (s d : Nat → Int32) (by' : Int32) (b : Nat) : Bool := (decide (by' * s b = -1) && decide (d b = 0)) || (decide (by' * s b = 1) && decide (d b = 1))
theorem isOpen60 {M : rSt} {n : Nat} (m3 : M.1 60 3 = nI n) (h56 : n ≤ 56) (y : Int32) : J_X10_isOpen 60 y (Wd M) = some (!(rFd (opS (M.2.2.1 80) (M.2.2.1 64) y) n 0).isSome) := by
  have e0 := nI_refl (n := n) (by omega)
  unfold J_X10_isOpen
  rw [wr_60]
  refine (loopA (fun f i => J_X10_isOpen_2 60 y (Wd M) f (nI i)) (some true) (some false) (opS (M.2.2.1 80) (M.2.2.1 64) y) n ?_ ?_ (f := 2000) (by omega)).trans ?_
  · intro f
    rw [J_X10_isOpen_2]
    simp only [Nat.reduceEqDiff, Nat.reduceAdd, Nat.reduceMul, reduceCtorEq, if_true, if_false, bs, rLet_eq, rB2_e, reduceIte, wr_0, wf_0_0, wf_0_1, wf_0_2, wp_0_2, wf_0_3, wf_0_4, wf_0_5, wf_0_6, wf_0_7, wf_0_8, wr_1, wf_1_0, wf_1_1, wf_1_2, wf_1_3, wf_1_4, wr_2, wf_2_0, wp_2_0, wf_2_1, wp_2_1, wf_2_2, wp_2_2, wf_2_3, wp_2_3, wf_2_4, wf_2_5, wr_5, wf_5_0, wf_5_1, wf_5_2, wp_5_2, wf_5_3, wp_5_3, wr_7, wf_7_0, wf_7_1, wf_7_2, wp_7_2, wr_10, wf_10_0, wf_10_1, wf_10_2, wp_10_2, wr_13, wf_13_0, wf_13_1, wf_13_2, wp_13_2, wr_16, wf_16_0, wf_16_1, wf_16_2, wf_16_3, wf_16_4, wr_17, wf_17_0, wp_17_0, wf_17_1, wp_17_1, wf_17_2, wp_17_2, wf_17_3, wp_17_3, wf_17_4, wf_17_5, wr_20, wf_20_0, wf_20_1, wf_20_2, wp_20_2, wf_20_3, wp_20_3, wr_22, wf_22_0, wf_22_1, wf_22_2, wp_22_2, wr_25, wf_25_0, wf_25_1, wf_25_2, wp_25_2, wr_28, wf_28_0, wf_28_1, wf_28_2, wp_28_2, wr_31, wf_31_0, wf_31_1, wf_31_2, wp_31_2, wf_31_3, wp_31_3, wr_33, wf_33_0, wf_33_1, wp_33_1, wf_33_2, wp_33_2, wr_35, wf_35_0, wf_35_1, wp_35_1, wf_35_2, wp_35_2, wf_35_3, wp_35_3, wr_36, wf_36_0, wf_36_1, wp_36_1, wf_36_2, wp_36_2, wr_38, wf_38_0, wp_38_0, wf_38_1, wp_38_1, wf_38_2, wp_38_2, wf_38_3, wp_38_3, wf_38_4, wf_38_5, wf_38_6, wf_38_7, wr_43, wf_43_0, wf_43_1, wp_43_1, wf_43_2, wf_43_3, wf_43_4, wp_43_4, wf_43_5, wp_43_5, wr_48, wf_48_0, wp_48_0, wf_48_1, wp_48_1, wf_48_2, wr_50, wf_50_0, wp_50_0, wf_50_1, wp_50_1, wf_50_2, wr_52, wf_52_0, wp_52_0, wf_52_1, wp_52_1, wf_52_2, wr_54, wf_54_0, wp_54_0, wf_54_1, wp_54_1, wf_54_2, wr_56, wf_56_0, wp_56_0, wf_56_1, wp_56_1, wf_56_2, wr_58, wf_58_0, wp_58_0, wf_58_1, wp_58_1, wf_58_2, wr_60, wf_60_0, wp_60_0, wf_60_1, wp_60_1, wf_60_2, wp_60_2, wf_60_3, wp_60_3, wf_60_4, wf_60_5, wf_60_6, wf_60_7, wf_60_8, wf_60_9, wf_60_10, wf_60_11, wp_60_11, wf_60_12, wf_60_13, wf_60_14, wp_60_14, wf_60_15, wf_60_16, wf_60_17, wp_60_17, wf_60_18, wf_60_19, wp_60_19, wf_60_20, wp_60_20, wf_60_21, wf_60_22, wf_60_23, wp_60_23, wf_60_24, wf_60_25, wf_60_26, wf_60_27, wf_60_28, wf_60_29, wp_60_29, wf_60_30, wf_60_31, wf_60_32, wf_60_33, wf_60_34, wp_60_34, wf_60_35, wf_60_36, wf_60_37, wf_60_38, wp_60_38, wf_60_39, wp_60_39, wf_60_40, wp_60_40, wf_60_41, wp_60_41, m3, e0]
  · intro f i hi
    have i56 : i < 56 := by omega
    rw [J_X10_isOpen_2, wf_60_3, bs, m3, if_neg (nI_ge hi (by omega)), wf_60_30, bs, wa_80 i56, bs]
    simp only [rLet_eq, nI_1, wf_60_7, bs, wa_64 i56]
    unfold opS
    have n1 : ¬ ((-1 : Int32) = 1) := by decide
    have n2 : ¬ ((0 : Int32) = 1) := by decide
    by_cases h1 : y * M.2.2.1 80 i = -1
    · by_cases h2 : M.2.2.1 64 i = 0
      · simp [h1, h2]
      · simp [h1, h2]
    · by_cases h3 : y * M.2.2.1 80 i = 1
      · by_cases h2 : M.2.2.1 64 i = 1
        · simp [h3, h2]
        · simp [h3, h2]
      · simp [h1, h3]
  · cases (rFd (opS (M.2.2.1 80) (M.2.2.1 64) y) n 0).isSome <;> rfl
theorem sg_pm (c : Nat) : sgC c = 1 ∨ sgC c = -1 := by unfold sgC; split <;> simp
theorem op_same {V K T : Nat} {p : Nat → Nat} (hk : Ok3 V K T) (hp : TwP V (T + K + 1) p) {d : Nat → Bool} {s d' : Nat → Int32} (hs : ∀ j, j < MB V K → s j = SGF p V K T (fun _ => 0) j) (hd : ∀ j, j < MB V K → d' j = bi (d j)) {y : Int32} (hy : y = 1 ∨ y = -1) : (rFd (opS s d' y) (MB V K) 0).isSome = (rFd (opB p V K T d y) (2 ^ (T + 1)) 0).isSome := by
  obtain ⟨-, -, h3, h4⟩ := tw_add hk hp (fun _ => 0) 1 (fun _ => 0) (fun _ _ => rfl)
  apply Bool.eq_iff_iff.mpr
  rw [rFd_is, rFd_is]
  have key : ∀ c, c < 2 ^ (T + 1) → opS s d' y (bk p V K T c) = opB p V K T d y c := by
    intro c hc
    have hb := (bk_lt (c := c) hk hp).1
    unfold opS opB
    rw [hs _ hb, h3 c hc, hd _ hb]
    rcases hy with rfl | rfl <;> rcases sg_pm c with e | e <;> rw [e] <;> cases d (bk p V K T c) <;> decide
  constructor
  · rintro ⟨j, hj, h⟩
    rcases h4 j hj with h5 | ⟨c, hc, h5⟩
    · unfold opS at h
      rw [hs j hj, h5, Int32.mul_zero] at h
      exfalso
      revert h
      simp
    · subst h5
      rw [key c hc] at h
      exact ⟨c, hc, h⟩
  · rintro ⟨c, hc, h⟩
    exact ⟨bk p V K T c, (bk_lt (c := c) hk hp).1, by rw [key c hc]; exact h⟩
/-- the one number of times that may do -/
def tmB (b : Bool) : Int32 := if b = true then -1 else 1
theorem op_first {V K T : Nat} {p : Nat → Nat} {d : Nat → Bool} {y : Int32} (hy : y = 1 ∨ y = -1) (h : ¬ y = tmB (d (bk p V K T 0))) : (rFd (opB p V K T d y) (2 ^ (T + 1)) 0).isSome = true := by
  refine (rFd_is _ _).mpr ⟨0, Nat.two_pow_pos _, ?_⟩
  unfold opB
  have e : sgC 0 = 1 := rfl
  rw [e, Int32.mul_one]
  revert h
  unfold tmB
  rcases hy with rfl | rfl <;> cases d (bk p V K T 0) <;> decide
theorem op_0 {V K T : Nat} {p : Nat → Nat} {d : Nat → Bool} : opB p V K T d (tmB (d (bk p V K T 0))) 0 = false := by
  unfold opB
  have e : sgC 0 = 1 := rfl
  rw [e, Int32.mul_one]
  unfold tmB
  cases d (bk p V K T 0) <;> decide
/-- what is found so far stands alike in both -/
def Qo (S M : rSt) : Prop := S.1 35 1 = M.1 60 39 ∧ (S.1 35 1 = 0 ∨ (S.1 35 2 = M.1 60 40 ∧ S.1 35 3 = M.1 60 41))
def oE (S S1 : rSt) : Prop := (∀ a k, a ≠ 35 → S1.1 a k = S.1 a k) ∧ S1.2.1 = S.2.1 ∧ (∀ a, a ≠ 37 → S1.2.2.1 a = S.2.2.1 a) ∧ S1.2.2.2 = S.2.2.2
def oF (M M1 : rSt) : Prop := (∀ a k, a ≠ 60 → M1.1 a k = M.1 a k) ∧ (∀ k, k ≠ 39 → k ≠ 40 → k ≠ 41 → M1.1 60 k = M.1 60 k) ∧ M1.2.1 = M.2.1 ∧ (∀ a, a ≠ 80 → a ≠ 81 → M1.2.2.1 a = M.2.2.1 a) ∧ M1.2.2.2 = M.2.2.2
theorem oE_r (S : rSt) : oE S S := ⟨fun _ _ _ => rfl, rfl, fun _ _ => rfl, rfl⟩
theorem oF_r (S : rSt) : oF S S := ⟨fun _ _ _ => rfl, fun _ _ _ _ => rfl, rfl, fun _ _ _ => rfl, rfl⟩
theorem oE_t {S S1 S2 : rSt} (h : oE S S1) (g : oE S1 S2) : oE S S2 := ⟨fun a k ha => (g.1 a k ha).trans (h.1 a k ha), g.2.1.trans h.2.1, fun a h1 => (g.2.2.1 a h1).trans (h.2.2.1 a h1), g.2.2.2.trans h.2.2.2⟩
theorem oF_t {S S1 S2 : rSt} (h : oF S S1) (g : oF S1 S2) : oF S S2 := ⟨fun a k ha => (g.1 a k ha).trans (h.1 a k ha), fun k h1 h2 h3 => (g.2.1 k h1 h2 h3).trans (h.2.1 k h1 h2 h3), g.2.2.1.trans h.2.2.1, fun a h1 h2 => (g.2.2.2.1 a h1 h2).trans (h.2.2.2.1 a h1 h2), g.2.2.2.2.trans h.2.2.2.2⟩
theorem oE_i (S : rSt) (k : Nat) (x : Int32) : oE S (si S 35 k x) := ⟨fun a j ha => by rw [ri_i, if_neg ha], rfl, fun _ _ => rfl, rfl⟩
theorem oE_a (S : rSt) (f : Nat → Int32) : oE S (sa S 37 f) := ⟨fun _ _ _ => rfl, rfl, fun a h1 => by rw [ra_a, if_neg h1], rfl⟩
theorem oF_i (S : rSt) (k : Nat) (x : Int32) (h : k = 39 ∨ k = 40 ∨ k = 41) : oF S (si S 60 k x) := ⟨fun a j ha => by rw [ri_i, if_neg ha], fun j h1 h2 h3 => by rw [ri_i, if_pos rfl, if_neg (by omega)], rfl, fun _ _ _ => rfl, rfl⟩
theorem oF_tw (S : rSt) (f g : Nat → Int32) : oF S (sa (sa S 80 f) 81 g) := ⟨fun _ _ _ => rfl, fun _ _ _ _ => rfl, rfl, fun a h1 h2 => by rw [ra_a, if_neg h2, ra_a, if_neg h1], rfl⟩
/-- what both look at -/
def Ro (V K T : Nat) (S M : rSt) : Prop := Rsz V K T S M ∧ (∀ b, b < 56 → M.2.2.1 64 b = bi (tb (S.2.1 5 2) b)) ∧ S.1 36 1 = nI (T + 1) ∧ S.1 36 2 = nI (T + K + 1)
theorem Ro_e {V K T : Nat} {S S1 M M1 : rSt} (h : Ro V K T S M) (e : oE S S1) (g : oF M M1) : Ro V K T S1 M1 := by
  obtain ⟨e1, e2, e3, e4⟩ := e
  obtain ⟨g1, g2, g3, g4, g5⟩ := g
  unfold Ro Rsz at *
  simp (disch := decide) only [e1, e2, e3, g2, g4]
  exact h
theorem nft : ¬ (false = true) := by decide
theorem rLet_b (F : Int32 → Option rW) (b : Bool) : (rLet F fun K => if (bi b) = 0 then K 1 else K (-1)) = F (tmB b) := by cases b <;> rfl
theorem judge_leaf {V K T : Nat} {S M : rSt} (h : Ro V K T S M) (hq : Qo S M) {N : Int32} (hok : tkOK V (T + K + 1) N = true) (hpt : ∀ j, j < T + K + 1 → S.2.2.1 37 j = nI (tkP V (T + K + 1) N j)) : ∃ S1 M1, J_X1_judgeTwist 35 5 N (Wd S) = some (Wd S1) ∧ (rB2 (J_X10_twists 60 N (Wd M)) fun b27 w28 => rLet (bi b27) fun v29 => J_X10_opens_29 60 N v29 2000 (-1) w28) = some (Wd M1) ∧ Qo S1 M1 ∧ oE S S1 ∧ oF M M1 ∧ S1.2.2.1 37 = S.2.2.1 37 := by
  obtain ⟨⟨⟨hk, c0, c1, c2, c3, cB⟩, -, m0, m1, m2, m3, mB⟩, hd, p1, p2⟩ := h
  have hM := MB_ok hk
  have hT : T < 3 := by have := hk.2.2.2.1; have := hk.2.2.2.2.2; omega
  have h8 := p2T hT
  have h1p : 1 ≤ 2 ^ (T + 1) := Nat.one_le_two_pow
  obtain ⟨hv, -⟩ := tk_all hk.2.1 N hok
  obtain ⟨s, g, t1, t2⟩ := twists60 hk m0 m1 m2 m3 mB N
  have t2 := t2 hok
  rw [hok] at t1
  generalize hp' : tkP V (T + K + 1) N = p at hpt hv t2
  have bo : ∀ c, c < 8 → J_X8_blockOf 36 2 (nI c) (Wd S) = some (nI (bk p V K T c)) := by
    intro c hc
    obtain ⟨q, a1, a2, a3⟩ := blockOf36 (S := S) hk p1 p2 hpt hv.1 hc
    have a4 : q = sO p K T c := a2
    rw [a3, cB.2 q a1, a4, nb_sO hk hv]
  have isn : ∀ c, J_X9_isIn (S.2.1 5 2) (nI (bk p V K T c)) (Wd S) = some (tb (S.2.1 5 2) (bk p V K T c)) := fun c => isIn_eq (by have := (bk_lt (c := c) hk hv).1; omega) _ _
  have ch := choices36 hT p1
  have yy : tmB (tb (S.2.1 5 2) (bk p V K T 0)) = 1 ∨ tmB (tb (S.2.1 5 2) (bk p V K T 0)) = -1 := by
    unfold tmB
    cases tb (S.2.1 5 2) (bk p V K T 0)
    · exact Or.inl rfl
    · exact Or.inr rfl
  -- the class
  have lp := fun K96 => loopD (fun f c => J_X1_judgeTwist_34 35 5 (tmB (tb (S.2.1 5 2) (bk p V K T 0))) (Wd S) K96 f (nI c)) K96 (fun _ => some (Wd S)) (opB p V K T (tb (S.2.1 5 2)) (tmB (tb (S.2.1 5 2) (bk p V K T 0)))) (2 ^ (T + 1)) (fun f => by
      rw [J_X1_judgeTwist_34, wf_35_0, bs, ch, bs, if_pos (nI_refl (by omega))]) (fun f c hc => by
      rw [J_X1_judgeTwist_34, wf_35_0, bs, ch, bs, if_neg (nI_ge hc (by omega)), signOf8 (by omega), bs]
      simp only [rLet_eq, wf_5_2, wf_5_0, bs, bo c (by omega), isn, nI_1]
      unfold opB
      have e0 : (0 ≤ tmB (tb (S.2.1 5 2) (bk p V K T 0)) * sgC c) ↔ ¬ (tmB (tb (S.2.1 5 2) (bk p V K T 0)) * sgC c < 0) := Int32.not_lt.symm
      by_cases e1 : tmB (tb (S.2.1 5 2) (bk p V K T 0)) * sgC c < 0
      · rw [if_neg (fun q => e0.mp q e1), decide_eq_true e1]
        cases tb (S.2.1 5 2) (bk p V K T c)
        · rw [if_neg (by decide), if_pos (by decide)]
        · rw [if_pos (by decide), if_neg (by decide)]
      · rw [if_pos (e0.mpr e1), decide_eq_false e1]
        cases tb (S.2.1 5 2) (bk p V K T c)
        · rw [if_pos (by decide), if_neg (by decide)]
        · rw [if_neg (by decide), if_pos (by decide)]) (2 ^ (T + 1) - 1) 2000 1 (by omega) (by omega)
  have lp1 : nI 1 = (1 : Int32) := by decide
  rw [lp1] at lp
  have first : (rFd (opB p V K T (tb (S.2.1 5 2)) (tmB (tb (S.2.1 5 2) (bk p V K T 0)))) (2 ^ (T + 1)) 0).isSome = (rFd (opB p V K T (tb (S.2.1 5 2)) (tmB (tb (S.2.1 5 2) (bk p V K T 0)))) (2 ^ (T + 1) - 1) 1).isSome := by
    obtain ⟨q, hq⟩ : ∃ q, 2 ^ (T + 1) = q + 1 := ⟨2 ^ (T + 1) - 1, by omega⟩
    rw [hq, rFd, op_0, if_neg (by decide), Nat.add_sub_cancel]
  have cls : J_X1_judgeTwist 35 5 N (Wd S) = if (rFd (opB p V K T (tb (S.2.1 5 2)) (tmB (tb (S.2.1 5 2) (bk p V K T 0)))) (2 ^ (T + 1)) 0).isSome = true then some (Wd S) else some (Wd (si (if S.1 35 1 = 0 then si (si S 35 2 N) 35 3 (tmB (tb (S.2.1 5 2) (bk p V K T 0))) else S) 35 1 (S.1 35 1 + 1))) := by
    have b0 := bo 0 (by decide)
    rw [nI_0] at b0
    unfold J_X1_judgeTwist
    rw [wr_35, wf_35_0, bs, wf_5_0, bs, b0, bs, wf_5_2, bs, isn, bs, rLet_b, rLet_eq, lp, first]
    cases rFd (opB p V K T (tb (S.2.1 5 2)) (tmB (tb (S.2.1 5 2) (bk p V K T 0)))) (2 ^ (T + 1) - 1) 1 with
    | some j => rfl
    | none =>
      show ((gI (Wd S) 35 1 1).bind fun v9 => _) = some _
      rw [wf_35_1, bs, rLet_eq]
      by_cases h0 : S.1 35 1 = 0
      · rw [if_pos h0, if_pos h0, wp_35_2, bs, wp_35_3, bs]
        simp only [wf_35_1, bs, wp_35_1]
        rfl
      · rw [if_neg h0, if_neg h0]
        simp only [wf_35_1, bs, wp_35_1]
  -- the model
  have io : ∀ (x1 x2 x3 : Int32) (M' : rSt), M'.1 60 3 = nI (MB V K) → M'.2.2.1 80 = s → M'.2.2.1 64 = M.2.2.1 64 → ∀ y : Int32, (y = 1 ∨ y = -1) → J_X10_isOpen 60 y (Wd M') = some (!(rFd (opB p V K T (tb (S.2.1 5 2)) y) (2 ^ (T + 1)) 0).isSome) := by
    intro x1 x2 x3 M' a1 a2 a3 y hy
    rw [isOpen60 a1 hM.2, a2, a3, op_same hk hv t2 (fun j hj => hd j (by omega)) hy]
  have mdl : (rB2 (J_X10_twists 60 N (Wd M)) fun b27 w28 => rLet (bi b27) fun v29 => J_X10_opens_29 60 N v29 2000 (-1) w28) = if (rFd (opB p V K T (tb (S.2.1 5 2)) (tmB (tb (S.2.1 5 2) (bk p V K T 0)))) (2 ^ (T + 1)) 0).isSome = true then some (Wd (sa (sa M 80 s) 81 g)) else some (Wd (si (if M.1 60 39 = 0 then si (si (sa (sa M 80 s) 81 g) 60 40 N) 60 41 (tmB (tb (S.2.1 5 2) (bk p V K T 0))) else sa (sa M 80 s) 81 g) 60 39 (M.1 60 39 + 1))) := by
    rw [t1, rB2_e, rLet_eq]
    have q1 := io 0 0 0 (sa (sa M 80 s) 81 g) m3 rfl rfl
    have stp : ∀ (f : Nat) (y : Int32) (M' : rSt), ¬ 2 ≤ y → (y = 1 ∨ y = -1) → M'.1 60 3 = nI (MB V K) → M'.2.2.1 80 = s → M'.2.2.1 64 = M.2.2.1 64 → J_X10_opens_29 60 N 1 (f + 1) y (Wd M') = if (rFd (opB p V K T (tb (S.2.1 5 2)) y) (2 ^ (T + 1)) 0).isSome = true then J_X10_opens_29 60 N 1 f (y + 2) (Wd M') else J_X10_opens_29 60 N 1 f (y + 2) (Wd (si (if M'.1 60 39 = 0 then si (si M' 60 40 N) 60 41 y else M') 60 39 (M'.1 60 39 + 1))) := by
      intro f y M' hy2 hy a1 a2 a3
      rw [J_X10_opens_29, if_neg (by decide), if_neg hy2, io 0 0 0 M' a1 a2 a3 y hy, bs]
      simp only [rLet_eq]
      cases (rFd (opB p V K T (tb (S.2.1 5 2)) y) (2 ^ (T + 1)) 0).isSome
      · rw [if_neg (by decide), if_neg (by decide), wf_60_39, bs]
        by_cases h0 : M'.1 60 39 = 0
        · rw [if_pos h0, if_pos h0, wp_60_40, bs, wp_60_41, bs, wf_60_39, bs, wp_60_39, bs]
          rfl
        · rw [if_neg h0, if_neg h0, bs, wp_60_39, bs]
      · rw [if_pos (by decide), if_pos rfl]
    have fin : ∀ (f : Nat) (w : rW), J_X10_opens_29 60 N 1 (f + 1) 3 w = some w := fun f w => by
      rw [J_X10_opens_29, if_neg (by decide), if_pos (by decide)]
    have a12 : (-1 : Int32) + 2 = 1 := by decide
    have a13 : (1 : Int32) + 2 = 3 := by decide
    show J_X10_opens_29 60 N 1 (1997 + 1 + 1 + 1) (-1) _ = _
    rw [stp _ (-1) (sa (sa M 80 s) 81 g) (by decide) (Or.inr rfl) m3 rfl rfl, a12]
    have k39 : (sa (sa M 80 s) 81 g).1 60 39 = M.1 60 39 := rfl
    have o1 : ∀ M' : rSt, M'.1 60 3 = nI (MB V K) → (si (if M'.1 60 39 = 0 then si (si M' 60 40 N) 60 41 (-1) else M') 60 39 (M'.1 60 39 + 1)).1 60 3 = nI (MB V K) := fun M' hM' => by
      rw [ri_i, if_pos rfl, if_neg (by decide)]
      split
      · exact hM'
      · exact hM'
    cases htm : tb (S.2.1 5 2) (bk p V K T 0)
    · -- times 1
      have n1 : (rFd (opB p V K T (tb (S.2.1 5 2)) (-1)) (2 ^ (T + 1)) 0).isSome = true := op_first (Or.inr rfl) (by rw [htm]; decide)
      rw [if_pos n1, stp _ 1 (sa (sa M 80 s) 81 g) (by decide) (Or.inl rfl) m3 rfl rfl, a13, fin, fin]
      rfl
    · have n1 : (rFd (opB p V K T (tb (S.2.1 5 2)) 1) (2 ^ (T + 1)) 0).isSome = true := op_first (Or.inl rfl) (by rw [htm]; decide)
      have tm1 : tmB true = -1 := rfl
      rw [tm1]
      cases hb : (rFd (opB p V K T (tb (S.2.1 5 2)) (-1)) (2 ^ (T + 1)) 0).isSome
      · rw [if_neg nft, if_neg nft, stp _ 1 _ (by decide) (Or.inl rfl) (o1 (sa (sa M 80 s) 81 g) m3) (by rw [ri_2]; split <;> rfl) (by rw [ri_2]; split <;> rfl), if_pos n1, a13, fin]
        rfl
      · rw [if_pos rfl, if_pos rfl, stp _ 1 (sa (sa M 80 s) 81 g) (by decide) (Or.inl rfl) m3 rfl rfl, if_pos n1, a13, fin]
  rw [cls, mdl]
  cases hb : (rFd (opB p V K T (tb (S.2.1 5 2)) (tmB (tb (S.2.1 5 2) (bk p V K T 0)))) (2 ^ (T + 1)) 0).isSome
  · rw [if_neg nft, if_neg nft]
    refine ⟨_, _, rfl, rfl, ⟨?_, Or.inr ?_⟩, ?_, ?_, ?_⟩
    · show S.1 35 1 + 1 = M.1 60 39 + 1
      rw [hq.1]
    · by_cases h0 : S.1 35 1 = 0
      · have h0' : M.1 60 39 = 0 := by rw [← hq.1]; exact h0
        rw [if_pos h0, if_pos h0']
        exact ⟨rfl, rfl⟩
      · have h0' : ¬ M.1 60 39 = 0 := by rw [← hq.1]; exact h0
        rw [if_neg h0, if_neg h0']
        exact hq.2.resolve_left h0
    · split
      · exact oE_t (oE_i S 2 _) (oE_t (oE_i _ 3 _) (oE_i _ 1 _))
      · exact oE_i S 1 _
    · split
      · exact oF_t (oF_tw M s g) (oF_t (oF_i _ 40 _ (by decide)) (oF_t (oF_i _ 41 _ (by decide)) (oF_i _ 39 _ (by decide))))
      · exact oF_t (oF_tw M s g) (oF_i _ 39 _ (by decide))
    · rw [ri_2]
      split <;> rfl
  · rw [if_pos rfl, if_pos rfl]
    exact ⟨S, _, rfl, rfl, hq, oE_r S, oF_tw M s g, rfl⟩

/-! OPEN TWISTS, all of them -/
theorem bt2 : ∀ U, U < 256 → ∀ x, x < 8 → (nI (2 * U) ||| (1 <<< (nI (x + 1) &&& 31))) = nI (2 * (U ||| 2 ^ x)) ∧ ((nI (2 * U) >>> (nI (x + 1) &&& 31)) &&& 1) = nI (U / 2 ^ x % 2) := by decide +kernel
theorem bt3 : ∀ U, U < 256 → ∀ q, q < 8 → ∀ x, x < 8 → (decide ((U ||| 2 ^ q) / 2 ^ x % 2 = 1) = (decide (x = q) || decide (U / 2 ^ x % 2 = 1))) := by decide +kernel
theorem numP_c {p q : Nat → Nat} : ∀ m, (∀ j, j < m → p j = q j) → numP p m = numP q m := by
  intro m
  induction m with
  | zero => intro _; rfl
  | succ m ih =>
    intro h
    rw [numP, numP, ih (fun j hj => h j (by omega)), h m (by omega)]
def loP (T : Nat) (p : Nat → Nat) (i : Nat) : Nat := if i = 0 ∨ i = 2 * (T + 1) then 0 else if i < 2 * (T + 1) ∧ i % 2 = 0 then p (i - 2) + 1 else p (i - 1) + 1
theorem rem2 {a : Nat} (h : a < 2 ^ 31) : nI a - nI a / 2 * 2 = nI (a % 2) := pk_rem h (d := 2) (by decide) (by decide)
theorem least35 {S : rSt} {T i : Nat} {p : Nat → Nat} (hT : T < 3) (hi : i < 6) (h1 : S.1 36 1 = nI (T + 1)) (hp : ∀ j, j < i → S.2.2.1 37 j = nI (p j)) : J_X1_leastPoint 35 (nI i) (Wd S) = some (nI (loP T p i)) := by
  have e2 : (2 : Int32) * nI (T + 1) = nI (2 * (T + 1)) := by rw [show (2 : Int32) = nI 2 by decide, pk_mul]
  have e0 : nI i = 0 ↔ i = 0 := nI_eq (b := 0) (by omega) (by decide)
  have e3 : nI i = nI (2 * (T + 1)) ↔ i = 2 * (T + 1) := nI_eq (by omega) (by omega)
  have e4 : nI (2 * (T + 1)) ≤ nI i ↔ 2 * (T + 1) ≤ i := nI_leI (by omega) (by omega)
  unfold J_X1_leastPoint loP
  rw [wr_35, wf_35_0, bs, wf_36_1, bs, h1, e2, rLet_eq]
  by_cases c0 : i = 0
  · rw [if_pos (e0.mpr c0), if_pos (Or.inl c0)]
    rfl
  rw [if_neg (fun q => c0 (e0.mp q))]
  by_cases c1 : i = 2 * (T + 1)
  · rw [if_pos (e3.mpr c1), if_pos (Or.inr c1)]
    rfl
  rw [if_neg (fun q => c1 (e3.mp q)), if_neg (by omega)]
  have i1 : i - 1 < 6 := by omega
  have s1 : nI i - 1 = nI (i - 1) := nI_prd (by omega)
  have r1 : aI (Wd S) 37 (nI i - 1) = some (nI (p (i - 1))) := by rw [s1, wa_37 i1, hp _ (by omega)]
  simp only [rLet_eq, wf_35_0, wf_36_0, bs, r1, nI_1]
  have q0 : (0 : Int32) = 0 := rfl
  have q1 : ¬ (1 : Int32) = 0 := by decide
  simp only [q0, q1, if_true, if_false]
  by_cases c2 : 2 * (T + 1) ≤ i
  · rw [if_pos (e4.mpr c2), if_neg (show ¬ (i < 2 * (T + 1) ∧ i % 2 = 0) by omega)]
  · rw [if_neg (fun q => c2 (e4.mp q)), jrem2, bs, rem2 (by omega)]
    by_cases c3 : i % 2 = 0
    · have i2 : i - 2 < 6 := by omega
      have s2 : nI i - 2 = nI (i - 2) := pk_sub (a := i) (b := 2) (by omega)
      have r2 : aI (Wd S) 37 (nI i - 2) = some (nI (p (i - 2))) := by rw [s2, wa_37 i2, hp _ (by omega)]
      rw [if_pos (show i < 2 * (T + 1) ∧ i % 2 = 0 by omega), c3, if_pos nI_0, r2, bs, nI_1]
    · rw [if_neg (show ¬ (i < 2 * (T + 1) ∧ i % 2 = 0) by omega), show i % 2 = 1 by omega, if_neg (by decide)]
theorem opens60_s {M : rSt} {V K T i : Nat} {p : Nat → Nat} (hk : Ok3 V K T) (m1 : M.1 60 1 = nI K) (m2 : M.1 60 2 = nI T) (hi : i < T + K + 1) (hp : ∀ j, j < i → p j < 8) (f : Nat) (u : Int32) : J_X10_opens (f + 1) 60 (nI i) (nI (numP p i)) u (Wd M) = J_X10_opens_160 (J_X10_opens f) 60 (nI i) (nI (numP p i)) u 2000 (nI (loP T p i + 1)) (Wd M) := by
  obtain ⟨k1, k2, k3, k4, k5, k6⟩ := id hk
  have l1 := numP_lt (p := p) i hp
  have l2 := p10 (show i ≤ 6 by omega)
  have e1 : nI i = nI (T + K + 1) ↔ i = T + K + 1 := nI_eq (by omega) (by omega)
  have e2 : (2 * nI T) + 2 = nI (2 * (T + 1)) := by rw [show (2 : Int32) = nI 2 by decide, pk_mul, nI_add]; rfl
  have e4 : nI (2 * (T + 1)) ≤ nI i ↔ 2 * (T + 1) ≤ i := nI_leI (by omega) (by omega)
  have e5 : nI i ≤ nI (2 * (T + 1)) ↔ i ≤ 2 * (T + 1) := nI_leI (by omega) (by omega)
  have prev : 1 ≤ i → nI (numP p i) - nI (numP p i) / 10 * 10 = nI (p (i - 1) + 1) ∧ nI (numP p i) / 10 = nI (numP p (i - 1)) := by
    intro h
    obtain ⟨q, rfl⟩ : ∃ q, i = q + 1 := ⟨i - 1, by omega⟩
    have := hp q (by omega)
    rw [rem10 (by omega), div10 (by omega)]
    refine ⟨congrArg nI ?_, congrArg nI ?_⟩
    · rw [numP, Nat.add_sub_cancel]; omega
    · rw [numP, Nat.add_sub_cancel]; omega
  rw [J_X10_opens, wr_60, wf_60_2, bs, wf_60_1, bs, m1, m2, nI_add, nI_1, rLet_eq, if_neg (fun q => by have := e1.mp q; omega)]
  simp only [bs, rLet_eq, e2]
  unfold loP
  by_cases c2 : 2 * (T + 1) ≤ i
  · rw [if_pos (e4.mpr c2)]
    by_cases c3 : i ≤ 2 * (T + 1)
    · rw [if_pos (e5.mpr c3), if_pos (Or.inr (by omega))]
      rfl
    · rw [if_neg (fun q => c3 (e5.mp q)), if_neg (by omega), if_neg (by omega), jrem10, bs, (prev (by omega)).1, nI_1]
  · rw [if_neg (fun q => c2 (e4.mp q)), jrem2, bs, rem2 (by omega)]
    by_cases c3 : i % 2 = 1
    · rw [c3, if_pos (by decide), if_neg (by omega), if_neg (by omega), jrem10, bs, (prev (by omega)).1, nI_1]
    · rw [show i % 2 = 0 by omega, if_neg (by decide)]
      by_cases c0 : i = 0
      · subst c0
        rw [if_pos (by decide), if_pos (Or.inl rfl)]
        rfl
      · have h2 : numP p (i - 1) < 10 ^ (i - 1) := numP_lt (p := p) (i - 1) (fun j hj => hp j (by omega))
        have h3 := p10 (show i - 1 ≤ 6 by omega)
        have pr2 : nI (numP p (i - 1)) - nI (numP p (i - 1)) / 10 * 10 = nI (p (i - 2) + 1) := by
          obtain ⟨q, hq⟩ : ∃ q, i - 1 = q + 1 := ⟨i - 2, by omega⟩
          have := hp q (by omega)
          rw [rem10 (by omega), hq, show i - 2 = q by omega]
          exact congrArg nI (by rw [numP]; omega)
        rw [if_neg (nI_nle (by omega) (by omega)), if_neg (by omega), if_pos ⟨by omega, by omega⟩, jdiv10, bs, (prev (by omega)).2, jrem10, bs, pr2, nI_1]
theorem open_loop {V K T i : Nat} {p : Nat → Nat} {U : Nat} (hV : V ≤ 8) (hi : i < 6) (hU : U < 256) (rc : Nat → Nat → Int32 → Int32 → Int32 → rW → Option rW) (rm : Nat → Int32 → Int32 → Int32 → rW → Option rW) (hrec : ∀ x S M, x < V → U / 2 ^ x % 2 = 0 → Ro V K T S M → Qo S M → (∀ j, j < i → S.2.2.1 37 j = nI (p j)) → S.2.2.1 37 i = nI x → ∃ S1 M1, rc 35 5 (nI (i + 1)) (nI (U ||| 2 ^ x)) (nI (10 * numP p i + (x + 1))) (Wd S) = some (Wd S1) ∧ rm 60 (nI (i + 1)) (nI (10 * numP p i + (x + 1))) (nI (2 * (U ||| 2 ^ x))) (Wd M) = some (Wd M1) ∧ Qo S1 M1 ∧ oE S S1 ∧ oF M M1 ∧ ∀ j, j < i → S1.2.2.1 37 j = S.2.2.1 37 j) : ∀ k x f f' S M, x + k = V → k < f → k < f' → Ro V K T S M → Qo S M → (∀ j, j < i → S.2.2.1 37 j = nI (p j)) → ∃ S1 M1, J_X1_choosePoints_26 rc 35 5 (nI i) (nI U) (nI (numP p i)) f (nI x) (Wd S) = some (Wd S1) ∧ J_X10_opens_160 rm 60 (nI i) (nI (numP p i)) (nI (2 * U)) f' (nI (x + 1)) (Wd M) = some (Wd M1) ∧ Qo S1 M1 ∧ oE S S1 ∧ oF M M1 ∧ ∀ j, j < i → S1.2.2.1 37 j = S.2.2.1 37 j := by
  intro k
  induction k with
  | zero =>
    intro x f f' S M hx hf hf' hR hQ hp
    obtain ⟨f, rfl⟩ : ∃ q, f = q + 1 := ⟨f - 1, by omega⟩
    obtain ⟨f', rfl⟩ : ∃ q, f' = q + 1 := ⟨f' - 1, by omega⟩
    have hx : x = V := by omega
    obtain ⟨⟨⟨hk, c0, -⟩, -, m0, -⟩, -⟩ := id hR
    refine ⟨S, M, ?_, ?_, hQ, oE_r S, oF_r M, fun _ _ => rfl⟩
    · rw [J_X1_choosePoints_26, wf_5_0, bs, wf_2_0, bs, c0, hx, if_pos (nI_refl (by omega))]
    · rw [J_X10_opens_160, wf_60_0, bs, m0, hx, if_pos (nI_lt (by omega) (by omega))]
  | succ k ih =>
    intro x f f' S M hx hf hf' hR hQ hp
    obtain ⟨f, rfl⟩ : ∃ q, f = q + 1 := ⟨f - 1, by omega⟩
    obtain ⟨f', rfl⟩ : ∃ q, f' = q + 1 := ⟨f' - 1, by omega⟩
    obtain ⟨⟨⟨hk, c0, -⟩, -, m0, -⟩, -⟩ := id hR
    have x8 : x < 8 := by omega
    obtain ⟨b1, b2, b3⟩ := bt_or U hU x x8
    obtain ⟨b4, b5⟩ := bt2 U hU x x8
    have e1 : ¬ nI V ≤ nI x := nI_ge (by omega) (by omega)
    have e2 : ¬ nI V < nI (x + 1) := nI_nlt (by omega) (by omega)
    have e10 : ((10 * nI (numP p i)) + nI x) + 1 = nI (10 * numP p i + (x + 1)) := by rw [show (10 : Int32) = nI 10 by decide, pk_mul, nI_add, nI_1]; rfl
    have e11 : (10 * nI (numP p i)) + nI (x + 1) = nI (10 * numP p i + (x + 1)) := by rw [show (10 : Int32) = nI 10 by decide, pk_mul, nI_add]
    by_cases hu : U / 2 ^ x % 2 = 0
    · have hR1 : Ro V K T (sa S 37 (upd (S.2.2.1 37) i (nI x))) M := Ro_e hR (oE_a S _) (oF_r M)
      obtain ⟨S1, M1, r1, r2, r3, r4, r5, r6⟩ := hrec x (sa S 37 (upd (S.2.2.1 37) i (nI x))) M (by omega) hu hR1 hQ (fun j hj => by
        show upd (S.2.2.1 37) i (nI x) j = _
        rw [up_n (by omega)]
        exact hp j hj) (by show upd (S.2.2.1 37) i (nI x) i = _; rw [up_s])
      have pr : ∀ j, j < i → S1.2.2.1 37 j = S.2.2.1 37 j := by
        intro j hj
        rw [r6 j hj]
        show upd (S.2.2.1 37) i (nI x) j = _
        rw [up_n (by omega)]
      have oS : oE S S1 := oE_t (oE_a S _) r4
      obtain ⟨S2, M2, q1, q2, q3, q4, q5, q6⟩ := ih (x + 1) f f' S1 M1 (by omega) (by omega) (by omega) (Ro_e hR oS r5) r3 (fun j hj => (pr j hj).trans (hp j hj))
      refine ⟨S2, M2, ?_, ?_, q3, oE_t oS q4, oF_t r5 q5, fun j hj => (q6 j hj).trans (pr j hj)⟩
      · rw [J_X1_choosePoints_26, wf_5_0, bs, wf_2_0, bs, c0, if_neg e1, b3, hu]
        simp only [rLet_eq, nI_0, if_true, wf_35_0, wf_36_0, bs, wt_37 hi, b1, e10, r1, nI_1, q1]
      · rw [J_X10_opens_160, wf_60_0, bs, m0, if_neg e2, b5, hu]
        simp only [rLet_eq, nI_0, if_true, b4, e11, r2, bs, nI_1, q2]
    · have hu1 : U / 2 ^ x % 2 = 1 := by omega
      obtain ⟨S2, M2, q1, q2, q3, q4, q5, q6⟩ := ih (x + 1) f f' S M (by omega) (by omega) (by omega) hR hQ hp
      have n10 : ¬ (nI 1 = 0) := by decide
      refine ⟨S2, M2, ?_, ?_, q3, q4, q5, q6⟩
      · rw [J_X1_choosePoints_26, wf_5_0, bs, wf_2_0, bs, c0, if_neg e1, b3, hu1]
        simp only [rLet_eq, n10, if_false, nI_1, q1]
      · rw [J_X10_opens_160, wf_60_0, bs, m0, if_neg e2, b5, hu1]
        simp only [rLet_eq, n10, if_false, nI_1, q2]
theorem open_rec {V K T : Nat} (hk : Ok3 V K T) : ∀ m i f f' p U S M, i + m = T + K + 1 → m < f → m < f' → Ro V K T S M → Qo S M → TwP V i p → (∀ j, j < i → S.2.2.1 37 j = nI (p j)) → U < 256 → (∀ x, x < 8 → (U / 2 ^ x % 2 = 1 ↔ ∃ j, j < i ∧ p j = x)) → ∃ S1 M1, J_X1_choosePoints f 35 5 (nI i) (nI U) (nI (numP p i)) (Wd S) = some (Wd S1) ∧ J_X10_opens f' 60 (nI i) (nI (numP p i)) (nI (2 * U)) (Wd M) = some (Wd M1) ∧ Qo S1 M1 ∧ oE S S1 ∧ oF M M1 ∧ ∀ j, j < i → S1.2.2.1 37 j = S.2.2.1 37 j := by
  obtain ⟨k1, k2, k3, k4, k5, k6⟩ := id hk
  intro m
  induction m with
  | zero =>
    intro i f f' p U S M hi hf hf' hR hQ hp hpt hU hu
    obtain ⟨f, rfl⟩ : ∃ q, f = q + 1 := ⟨f - 1, by omega⟩
    obtain ⟨f', rfl⟩ : ∃ q, f' = q + 1 := ⟨f' - 1, by omega⟩
    have hi : i = T + K + 1 := by omega
    subst hi
    obtain ⟨t1, t2⟩ := tk_num2 k2 (by omega) hp
    obtain ⟨S1, M1, r1, r2, r3, r4, r5, r6⟩ := judge_leaf hR hQ t1 (fun j hj => by rw [hpt j hj, t2 j hj])
    obtain ⟨⟨⟨-, c0, c1, c2, -⟩, -, m0, m1, m2, -⟩, -, p1, p2⟩ := id hR
    refine ⟨S1, M1, ?_, ?_, r3, r4, r5, fun j _ => by rw [r6]⟩
    · rw [J_X1_choosePoints, wf_35_0, bs, wf_36_2, bs, p2, if_neg (nI_nlt (Nat.le_refl _) (by omega)), r1, bs]
    · rw [J_X10_opens, wr_60, wf_60_2, bs, wf_60_1, bs, m1, m2, nI_add, nI_1, rLet_eq, if_pos rfl]
      exact r2
  | succ m ih =>
    intro i f f' p U S M hi hf hf' hR hQ hp hpt hU hu
    obtain ⟨f, rfl⟩ : ∃ q, f = q + 1 := ⟨f - 1, by omega⟩
    obtain ⟨f', rfl⟩ : ∃ q, f' = q + 1 := ⟨f' - 1, by omega⟩
    obtain ⟨⟨⟨-, c0, c1, c2, -⟩, -, m0, m1, m2, -⟩, -, p1, p2⟩ := id hR
    have lo : loP T p i ≤ V := by
      unfold loP
      split
      · omega
      · split
        · have := hp.1 (i - 2) (by omega)
          omega
        · have := hp.1 (i - 1) (by omega)
          omega
    have e1 := least35 (S := S) (T := T) (i := i) (p := p) (by omega) (by omega) p1 hpt
    have e2 := opens60_s (M := M) (p := p) hk m1 m2 (show i < T + K + 1 by omega) (fun j hj => by have := hp.1 j hj; omega) f' (nI (2 * U))
    obtain ⟨S1, M1, r1, r2, r3, r4, r5, r6⟩ := open_loop (V := V) (K := K) (T := T) (i := i) (p := p) (U := U) k2 (by omega) hU (J_X1_choosePoints f) (J_X10_opens f') (fun x S M hx hux hR hQ hpt hix => by
      have pc : ∀ j, j < i → (if j = i then x else p j) = p j := fun j hj => if_neg (by omega)
      have nP : numP (fun j => if j = i then x else p j) (i + 1) = 10 * numP p i + (x + 1) := by
        rw [numP, numP_c i (fun j hj => pc j hj)]
        simp only [if_true]
      have hp' : TwP V (i + 1) (fun j => if j = i then x else p j) := by
        refine ⟨fun j hj => ?_, fun j q hj hq h => ?_⟩
        · by_cases hji : j = i
          · show (if j = i then x else p j) < V
            rw [if_pos hji]; exact hx
          · show (if j = i then x else p j) < V
            rw [if_neg hji]; exact hp.1 j (by omega)
        · have h : (if j = i then x else p j) = (if q = i then x else p q) := h
          by_cases hji : j = i
          · by_cases hqi : q = i
            · rw [hji, hqi]
            · rw [if_pos hji, if_neg hqi] at h
              have := (hu x (by omega)).mpr ⟨q, by omega, h.symm⟩
              omega
          · by_cases hqi : q = i
            · rw [if_neg hji, if_pos hqi] at h
              have := (hu x (by omega)).mpr ⟨j, by omega, h⟩
              omega
            · rw [if_neg hji, if_neg hqi] at h
              exact hp.2 j q (by omega) (by omega) h
      obtain ⟨S1, M1, r1, r2, r3, r4, r5, r6⟩ := ih (i + 1) f f' (fun j => if j = i then x else p j) (U ||| 2 ^ x) S M (by omega) (by omega) (by omega) hR hQ hp' (fun j hj => by
        by_cases hji : j = i
        · rw [if_pos hji, hji]; exact hix
        · rw [if_neg hji]; exact hpt j (by omega)) (bt_or U hU x (by omega)).2.1 (fun y hy => by
        have h3 := bt3 U hU x (by omega) y hy
        rw [Bool.eq_iff_iff, decide_eq_true_eq, Bool.or_eq_true, decide_eq_true_eq, decide_eq_true_eq] at h3
        rw [h3, hu y hy]
        constructor
        · rintro (h | ⟨j, h1, h2⟩)
          · exact ⟨i, by omega, by rw [if_pos rfl]; exact h.symm⟩
          · exact ⟨j, by omega, by rw [if_neg (by omega)]; exact h2⟩
        · rintro ⟨j, h1, h2⟩
          by_cases hji : j = i
          · rw [if_pos hji] at h2
            exact Or.inl h2.symm
          · rw [if_neg hji] at h2
            exact Or.inr ⟨j, by omega, h2⟩)
      rw [nP] at r1 r2
      exact ⟨S1, M1, r1, r2, r3, r4, r5, fun j hj => r6 j (by omega)⟩) (V - loP T p i) (loP T p i) 2000 2000 S M (by omega) (by omega) (by omega) hR hQ hpt
    refine ⟨S1, M1, ?_, by rw [e2]; exact r2, r3, r4, r5, r6⟩
    rw [J_X1_choosePoints, wf_35_0, bs, wf_36_2, bs, p2, if_pos (nI_lt (by omega) (by omega)), e1, bs]
    exact r1
theorem R_o {V K T : Nat} {S M S1 M1 : rSt} (h : R V K T S M) (e1 : ∀ a k, a ≠ 35 → a ≠ 36 → S1.1 a k = S.1 a k) (e2 : S1.2.1 = S.2.1) (e3 : ∀ a, a ≠ 37 → S1.2.2.1 a = S.2.2.1 a) (e4 : S1.2.2.2 = S.2.2.2) (g : oF M M1) : R V K T S1 M1 := by
  obtain ⟨g1, g2, g3, g4, g5⟩ := g
  unfold R Rsz Rst Rtx Rre Rse Rev Rbo RTs RIg RIm RPt at *
  simp (disch := decide) only [e1, e2, e3, e4, g2, g4, g5]
  exact h
theorem op_open (x : Int32) : Op2 (J_X9_open 0 x) (J_X10_open 60 x) := by
  intro V K T S M h
  cases h2 : inB x 0 2
  · refine ⟨-1, V, K, T, S, M, ?_, ?_, h, (mE_r S).1, (cE_r M).1⟩
    · unfold J_X9_open
      rw [wr_0]
      rw [in02_c] at h2
      by_cases h3 : x < 0
      · rw [if_pos h3]
      · by_cases h4 : x ≤ 2
        · simp [h3, h4] at h2
        · rw [if_neg h3, if_neg h4]
    · unfold J_X10_open
      rw [wr_60, inL_h, bs, h2, if_pos (by decide)]
  have h2' := h2
  rw [in02_c] at h2'
  simp only [Bool.and_eq_true, Bool.not_eq_true', decide_eq_false_iff_not, decide_eq_true_eq] at h2'
  obtain ⟨hsz, hst, -⟩ := id h
  obtain ⟨⟨hk, c0, c1, c2, c3, cB⟩, -⟩ := id hsz
  obtain ⟨k1, k2, k3, k4, k5, k6⟩ := id hk
  have e1 := becomeFor36 (S := si S 35 1 0) k4 k6 c1 c2
  have hR : Ro V K T (si (si (si S 35 1 0) 36 1 (nI (T + 1))) 36 2 (nI (T + K + 1))) (si M 60 39 0) := ⟨hsz, fun b hb => (hst.1 b hb).2.1, rfl, rfl⟩
  have hQ : Qo (si (si (si S 35 1 0) 36 1 (nI (T + 1))) 36 2 (nI (T + K + 1))) (si M 60 39 0) := ⟨rfl, Or.inl rfl⟩
  obtain ⟨S1, M1, r1, r2, r3, r4, r5, -⟩ := open_rec hk (T + K + 1) 0 40 40 (fun _ => 0) 0 _ _ (by omega) (by omega) (by omega) hR hQ ⟨fun j hj => absurd hj (Nat.not_lt_zero j), fun j q hj => absurd hj (Nat.not_lt_zero j)⟩ (fun j hj => absurd hj (Nat.not_lt_zero j)) (by decide) (fun y hy => ⟨fun hz => (by rw [Nat.zero_div] at hz; cases hz), fun ⟨j, hj, _⟩ => absurd hj (Nat.not_lt_zero j)⟩)
  have z1 : nI (numP (fun _ => 0) 0) = 0 := nI_0
  have z2 : nI (2 * 0) = 0 := nI_0
  rw [z1, nI_0] at r1
  rw [z1, z2] at r2
  have f1 : ∀ a k, a ≠ 35 → a ≠ 36 → S1.1 a k = S.1 a k := by
    intro a k h3 h4
    rw [r4.1 a k h3, ri_i, if_neg h4, ri_i, if_neg h4, ri_i, if_neg h3]
  have oM : oF M M1 := oF_t (oF_i M 39 0 (Or.inl rfl)) r5
  have hR1 : R V K T S1 M1 := R_o h f1 r4.2.1 r4.2.2.1 r4.2.2.2 oM
  have mS : mEq0 S S1 := ⟨fun k => f1 60 k (by decide) (by decide), fun a ha => r4.2.2.1 a (by omega), by rw [r4.2.2.2]; rfl⟩
  have cM : cEq0 M M1 := ⟨fun a k ha => oM.1 a k ha, oM.2.2.1, fun a ha => oM.2.2.2.1 a (by omega) (by omega), fun a _ => by rw [oM.2.2.2.2]⟩
  have cls : J_X9_open 0 x (Wd S) = if x = 0 then some (S1.1 35 1, Wd S1) else if S1.1 35 1 = 0 then some (-5, Wd S1) else if x = 1 then some (S1.1 35 2, Wd S1) else some (S1.1 35 3 + 1, Wd S1) := by
    unfold J_X9_open J_X1_look
    rw [wr_0, if_neg h2'.1, if_pos h2'.2, wf_0_5, bs, wf_0_0, bs, wf_1_1, bs, wr_35, wp_35_1, bs, wf_35_0, bs, wf_5_0, bs, e1, bs, r1, bs, bs]
    by_cases hx : x = 0
    · rw [if_pos hx, if_pos hx, wf_0_5, bs, wf_35_1, bs]
    · rw [if_neg hx, if_neg hx, wf_0_5, bs, wf_35_1, bs]
      by_cases h0 : S1.1 35 1 = 0
      · rw [if_pos h0, if_pos h0]
      · rw [if_neg h0, if_neg h0]
        by_cases h1 : x = 1
        · rw [if_pos h1, if_pos h1, bs, wf_35_2, bs]
        · rw [if_neg h1, if_neg h1, bs, wf_35_3, bs]
  have mdl : J_X10_open 60 x (Wd M) = if x = 0 then some (M1.1 60 39, Wd M1) else if M1.1 60 39 = 0 then some (-5, Wd M1) else if x = 1 then some (M1.1 60 40, Wd M1) else some (M1.1 60 41 + 1, Wd M1) := by
    unfold J_X10_open
    rw [wr_60, inL_h, bs, h2, if_neg (by decide), wp_60_39, bs, r2, bs]
    by_cases hx : x = 0
    · rw [if_pos hx, if_pos hx, wf_60_39, bs]
    · rw [if_neg hx, if_neg hx, wf_60_39, bs]
      by_cases h0 : M1.1 60 39 = 0
      · rw [if_pos h0, if_pos h0]
      · rw [if_neg h0, if_neg h0]
        by_cases h1 : x = 1
        · rw [if_pos h1, if_pos h1, wf_60_40, bs]
        · rw [if_neg h1, if_neg h1, wf_60_41, bs]
  rw [← r3.1] at mdl
  by_cases hx : x = 0
  · rw [if_pos hx] at cls mdl
    exact ⟨_, V, K, T, S1, M1, cls, mdl, hR1, mS, cM⟩
  · rw [if_neg hx] at cls mdl
    by_cases h0 : S1.1 35 1 = 0
    · rw [if_pos h0] at cls mdl
      exact ⟨_, V, K, T, S1, M1, cls, mdl, hR1, mS, cM⟩
    · rw [if_neg h0] at cls mdl
      obtain ⟨q1, q2⟩ := r3.2.resolve_left h0
      rw [← q1, ← q2] at mdl
      by_cases h1 : x = 1
      · rw [if_pos h1] at cls mdl
        exact ⟨_, V, K, T, S1, M1, cls, mdl, hR1, mS, cM⟩
      · rw [if_neg h1] at cls mdl
        exact ⟨_, V, K, T, S1, M1, cls, mdl, hR1, mS, cM⟩

/-! THE TEXT: numbers, clauses -/
theorem si_si5 (S : rSt) (x y : Int32) : si (si S 43 5 x) 43 5 y = si S 43 5 y := by rw [si_ss]
theorem si5_id {t : Nat → Int32} {n a : Nat} {S : rSt} (h : TS t n a S) : si S 43 5 (nI a) = S := by
  have := si_id S 43 5
  rw [h.2.2.2.1] at this
  exact this
theorem passSign43 {t : Nat → Int32} {n a : Nat} {S : rSt} (h : TS t n a S) (x : Int32) : J_X4_passSign 43 x (Wd S) = if a < n ∧ t a = x then some (true, Wd (si S 43 5 (nI (a + 1)))) else some (false, Wd S) := by
  obtain ⟨h1, h2, h3, h4, h5⟩ := h
  unfold J_X4_passSign
  rw [wr_43, wf_43_5, bs, wf_43_1, bs, h3, h4]
  by_cases c : a < n
  · have a100 : a < 100 := by omega
    rw [if_neg (nI_ge c (by omega)), wf_43_0, bs, bs, wa_44 a100, bs, h5 a c]
    by_cases d : t a = x
    · rw [if_pos d, if_pos ⟨c, d⟩, bs, nI_1, wp_43_5, bs]
    · rw [if_neg d, if_neg (fun q => d q.2)]
  · rw [if_pos (nI_le (by omega) (by omega)), if_neg (fun q => c q.1)]
def dgF (t : Nat → Int32) (n : Nat) : Nat → Nat → Int32 → Nat × Int32
  | 0, a, x => (a, x)
  | m + 1, a, x => if a < n ∧ inB (t a) 48 57 = true then dgF t n m (a + 1) (((10 * x) + t a) - 48) else (a, x)
theorem dgF_le {t : Nat → Int32} {n : Nat} : ∀ m a x, a ≤ n → a ≤ (dgF t n m a x).1 ∧ (dgF t n m a x).1 ≤ n ∧ (dgF t n m a x).1 ≤ a + m := by
  intro m
  induction m with
  | zero => intro a x h; exact ⟨Nat.le_refl _, h, Nat.le_refl _⟩
  | succ m ih =>
    intro a x h
    rw [dgF]
    split
    · rename_i c
      obtain ⟨i1, i2, i3⟩ := ih (a + 1) (((10 * x) + t a) - 48) (by omega)
      exact ⟨by omega, i2, by omega⟩
    · exact ⟨Nat.le_refl _, h, Nat.le_add_right _ _⟩
theorem inB_48 (y : Int32) : inB y 48 57 = (!decide (y < 48) && !decide (57 < y)) := rfl
theorem digits43 {t : Nat → Int32} {n : Nat} (K' : Int32 → Int32 → rW → Option (Bool × rW)) : ∀ m f d a x S, TS t n a S → d + m = 6 → m < f → J_X4_parseNumber_12 43 K' f x (nI d) (Wd S) = K' (dgF t n m a x).2 (nI (d + ((dgF t n m a x).1 - a))) (Wd (si S 43 5 (nI (dgF t n m a x).1))) := by
  intro m
  induction m with
  | zero =>
    intro f d a x S h hd hf
    obtain ⟨f, rfl⟩ : ∃ k, f = k + 1 := ⟨f - 1, by omega⟩
    have : d = 6 := by omega
    subst this
    rw [J_X4_parseNumber_12, if_pos (by decide), dgF, Nat.sub_self, si5_id h]
  | succ m ih =>
    intro f d a x S h hd hf
    obtain ⟨f, rfl⟩ : ∃ k, f = k + 1 := ⟨f - 1, by omega⟩
    obtain ⟨h1, h2, h3, h4, h5⟩ := id h
    have e6 : ¬ (6 : Int32) ≤ nI d := nI_ge (b := 6) (by omega) (by decide)
    rw [J_X4_parseNumber_12, if_neg e6, wf_43_5, bs, wf_43_1, bs, h3, h4, dgF]
    have stop : K' x (nI d) (Wd S) = K' x (nI (d + (a - a))) (Wd (si S 43 5 (nI a))) := by rw [Nat.sub_self, si5_id h]; rfl
    by_cases c : a < n
    · have a100 : a < 100 := by omega
      rw [if_neg (nI_ge c (by omega))]
      simp only [wf_43_0, bs, wa_44 a100, h5 a c, rLet_eq, nI_1, wp_43_5]
      rw [inB_48]
      by_cases c1 : t a < 48
      · rw [if_pos c1, if_neg (by rintro ⟨-, q⟩; simp [c1] at q)]
        exact stop
      · rw [if_neg c1]
        by_cases c2 : 57 < t a
        · rw [if_pos c2, if_neg (by rintro ⟨-, q⟩; simp [c2] at q)]
          exact stop
        · rw [if_neg c2, if_pos ⟨c, by simp [c1, c2]⟩, ih f (d + 1) (a + 1) _ _ (TS_at h (by omega)) (by omega) (by omega), si_si5]
          obtain ⟨i1, i2, i3⟩ := dgF_le (t := t) (n := n) m (a + 1) (((10 * x) + t a) - 48) (by omega)
          rw [show d + 1 + ((dgF t n m (a + 1) (((10 * x) + t a) - 48)).1 - (a + 1)) = d + ((dgF t n m (a + 1) (((10 * x) + t a) - 48)).1 - a) by omega]
    · rw [if_pos (nI_le (by omega) (by omega)), if_neg (fun q => c q.1)]
      exact stop
theorem digits60 {t : Nat → Int32} {n : Nat} (K' : Int32 → Int32 → rW → Option (Bool × rW)) : ∀ m f d a x M, TM t n a M → d + m = 6 → m < f → J_X10_numeral_55 60 K' f (nI d) x (Wd M) = K' (nI (d + ((dgF t n m a x).1 - a))) (dgF t n m a x).2 (Wd (si M 60 20 (nI (dgF t n m a x).1))) := by
  intro m
  induction m with
  | zero =>
    intro f d a x M h hd hf
    obtain ⟨f, rfl⟩ : ∃ k, f = k + 1 := ⟨f - 1, by omega⟩
    have : d = 6 := by omega
    subst this
    rw [J_X10_numeral_55, if_pos (by decide), dgF, Nat.sub_self, si20_id h]
  | succ m ih =>
    intro f d a x M h hd hf
    obtain ⟨f, rfl⟩ : ∃ k, f = k + 1 := ⟨f - 1, by omega⟩
    obtain ⟨h1, h2, h3, h4, h5⟩ := id h
    have e6 : ¬ (6 : Int32) ≤ nI d := nI_ge (b := 6) (by omega) (by decide)
    have e1 := sign60 h
    have e2 := fun w => inL_m (sgV t n a) w
    rw [J_X10_numeral_55, if_neg e6, e1, bs, e2, bs, dgF]
    have stop : K' (nI d) x (Wd M) = K' (nI (d + (a - a))) x (Wd (si M 60 20 (nI a))) := by rw [Nat.sub_self, si20_id h]; rfl
    unfold sgV
    by_cases c : a < n
    · rw [if_pos c]
      cases c1 : inB (t a) 48 57
      · rw [if_pos (by decide), if_neg (fun q => by cases q.2)]
        exact stop
      · rw [if_neg (by decide), if_pos ⟨c, rfl⟩]
        have e3 := sign60 h
        unfold sgV at e3
        rw [if_pos c] at e3
        rw [bs, rLet_eq, wf_60_20, bs, h4, nI_1, wp_60_20, bs, rLet_eq, nI_1, ih f (d + 1) (a + 1) _ _ (TM_at h (by omega)) (by omega) (by omega), si_si20]
        obtain ⟨i1, i2, i3⟩ := dgF_le (t := t) (n := n) m (a + 1) (((10 * x) + t a) - 48) (by omega)
        rw [show d + 1 + ((dgF t n m (a + 1) (((10 * x) + t a) - 48)).1 - (a + 1)) = d + ((dgF t n m (a + 1) (((10 * x) + t a) - 48)).1 - a) by omega]
    · rw [if_neg c, if_pos (by decide), if_neg (fun q => c q.1)]
      exact stop
/-- a number: whether it stands there, where it ends, which -/
def numF (t : Nat → Int32) (n a : Nat) : Bool × Nat × Int32 := if a < n ∧ t a = 45 then (decide (a + 1 < (dgF t n 6 (a + 1) 0).1), (dgF t n 6 (a + 1) 0).1, -(dgF t n 6 (a + 1) 0).2) else (decide (a < (dgF t n 6 a 0).1), (dgF t n 6 a 0).1, (dgF t n 6 a 0).2)
theorem numF_le {t : Nat → Int32} {n a : Nat} (h : a ≤ n) : a ≤ (numF t n a).2.1 ∧ (numF t n a).2.1 ≤ n := by
  unfold numF
  split
  · rename_i c
    obtain ⟨i1, i2, i3⟩ := dgF_le (t := t) (n := n) 6 (a + 1) 0 (by omega)
    exact ⟨by show a ≤ (dgF t n 6 (a + 1) 0).1; omega, i2⟩
  · obtain ⟨i1, i2, i3⟩ := dgF_le (t := t) (n := n) 6 a 0 h
    exact ⟨i1, i2⟩
theorem nz_le {b : Nat} (hb : b < 2 ^ 31) : (nI b ≤ 0) ↔ b = 0 := by
  constructor
  · intro h
    by_cases h0 : b = 0
    · exact h0
    · exact absurd h (nI_nle (by omega) hb)
  · rintro rfl; decide
theorem parseNumber43 {t : Nat → Int32} {n a : Nat} {S : rSt} (h : TS t n a S) {p : Nat} (hp : p < 36) : J_X4_parseNumber 43 (nI p) (Wd S) = some ((numF t n a).1, Wd (sa (si S 43 5 (nI (numF t n a).2.1)) 46 (upd (S.2.2.1 46) p (numF t n a).2.2))) := by
  unfold J_X4_parseNumber
  rw [wr_43, passSign43 h]
  unfold numF
  by_cases c : a < n ∧ t a = 45
  · obtain ⟨i1, i2, i3⟩ := dgF_le (t := t) (n := n) 6 (a + 1) 0 (by omega)
    have e := fun K' => digits43 (t := t) (n := n) K' 6 2000 0 (a + 1) 0 _ (TS_at h (show a + 1 ≤ n by omega)) (by omega) (by omega)
    rw [nI_0] at e
    have hz := nz_le (b := (dgF t n 6 (a + 1) 0).1 - (a + 1)) (by have := h.1; omega)
    rw [if_pos c, if_pos c]
    simp only [rB2_e, rLet_eq, e, wf_43_3, bs, bi_t, si_si5, Nat.zero_add]
    have rd : ∀ x, (si S 43 5 x).2.2.1 46 = S.2.2.1 46 := fun x => rfl
    rw [if_neg (by decide), wt_46 hp, bs, rd]
    by_cases d : (dgF t n 6 (a + 1) 0).1 - (a + 1) = 0
    · rw [if_pos (hz.mpr d), decide_eq_false (by omega)]
    · rw [if_neg (fun q => d (hz.mp q)), decide_eq_true (by omega)]
  · obtain ⟨i1, i2, i3⟩ := dgF_le (t := t) (n := n) 6 a 0 h.2.1
    have e := fun K' => digits43 (t := t) (n := n) K' 6 2000 0 a 0 _ h (by omega) (by omega)
    rw [nI_0] at e
    have hz := nz_le (b := (dgF t n 6 a 0).1 - a) (by have := h.1; omega)
    rw [if_neg c, if_neg c]
    simp only [rB2_e, rLet_eq, e, wf_43_3, bs, bi_f, Nat.zero_add]
    have rd : ∀ x, (si S 43 5 x).2.2.1 46 = S.2.2.1 46 := fun x => rfl
    rw [if_pos trivial, wt_46 hp, bs, rd]
    by_cases d : (dgF t n 6 a 0).1 - a = 0
    · rw [if_pos (hz.mpr d), decide_eq_false (by omega)]
    · rw [if_neg (fun q => d (hz.mp q)), decide_eq_true (by omega)]
theorem sgV_iff {t : Nat → Int32} {n a : Nat} {c : Int32} (hc : ¬ c = -1) : sgV t n a = c ↔ a < n ∧ t a = c := by
  unfold sgV
  by_cases h : a < n
  · rw [if_pos h]
    exact ⟨fun q => ⟨h, q⟩, fun q => q.2⟩
  · rw [if_neg h]
    exact ⟨fun q => absurd q.symm hc, fun q => absurd q.1 h⟩
theorem numeral60 {t : Nat → Int32} {n a : Nat} {M : rSt} (h : TM t n a M) {p : Nat} (hp : p < 36) : J_X10_numeral 60 (nI p) (Wd M) = if a < n ∧ t a = 32 then some ((numF t n (a + 1)).1, Wd (sa (si M 60 20 (nI (numF t n (a + 1)).2.1)) 74 (upd (M.2.2.1 74) p (numF t n (a + 1)).2.2))) else some (false, Wd M) := by
  have e1 := sign60 h
  have h4 := h.2.2.2.1
  unfold J_X10_numeral
  rw [wr_60, e1, bs]
  by_cases c0 : a < n ∧ t a = 32
  · have h' := TM_at h (show a + 1 ≤ n by omega)
    have e2 := sign60 h'
    rw [if_pos ((sgV_iff (by decide)).mpr c0), if_pos c0, wf_60_20, bs, h4, nI_1, wp_60_20, bs, e2, bs]
    simp only [rLet_eq]
    unfold numF
    have rd : ∀ x, (si M 60 20 x).2.2.1 74 = M.2.2.1 74 := fun x => rfl
    by_cases c : a + 1 < n ∧ t (a + 1) = 45
    · obtain ⟨i1, i2, i3⟩ := dgF_le (t := t) (n := n) 6 (a + 1 + 1) 0 (by omega)
      have e := fun K' => digits60 (t := t) (n := n) K' 6 2000 0 (a + 1 + 1) 0 _ (TM_at h (show a + 1 + 1 ≤ n by omega)) (by omega) (by omega)
      rw [nI_0] at e
      have hz := nz_le (b := (dgF t n 6 (a + 1 + 1) 0).1 - (a + 1 + 1)) (by have := h.1; omega)
      have e5 : (si M 60 20 (nI (a + 1))).1 60 20 = nI (a + 1) := rfl
      rw [if_pos ((sgV_iff (by decide)).mpr c), if_pos c, if_neg (by decide), wf_60_20, bs, e5, nI_1, wp_60_20, bs, si_si20]
      simp only [e, wf_60_22, bs, si_si20, Nat.zero_add]
      rw [if_neg (by decide), wt_74 hp, bs, rd]
      by_cases d : (dgF t n 6 (a + 1 + 1) 0).1 - (a + 1 + 1) = 0
      · rw [if_pos (hz.mpr d), decide_eq_false (by omega)]
      · rw [if_neg (fun q => d (hz.mp q)), decide_eq_true (by omega)]
    · obtain ⟨i1, i2, i3⟩ := dgF_le (t := t) (n := n) 6 (a + 1) 0 (by omega)
      have e := fun K' => digits60 (t := t) (n := n) K' 6 2000 0 (a + 1) 0 _ h' (by omega) (by omega)
      rw [nI_0] at e
      have hz := nz_le (b := (dgF t n 6 (a + 1) 0).1 - (a + 1)) (by have := h.1; omega)
      rw [if_neg (fun q => c ((sgV_iff (by decide)).mp q)), if_neg c]
      simp only [eq_self, if_true, e, wf_60_22, bs, si_si20, Nat.zero_add]
      rw [wt_74 hp, bs, rd]
      by_cases d : (dgF t n 6 (a + 1) 0).1 - (a + 1) = 0
      · rw [if_pos (hz.mpr d), decide_eq_false (by omega)]
      · rw [if_neg (fun q => d (hz.mp q)), decide_eq_true (by omega)]
  · rw [if_neg (fun q => c0 ((sgV_iff (by decide)).mp q)), if_neg c0]
/-- the numbers of a clause -/
def nuF (t : Nat → Int32) (n : Nat) : Nat → Nat → Bool × Nat × List Int32
  | 0, a => (true, a, [])
  | m + 1, a => if a < n ∧ t a = 32 then (if (numF t n (a + 1)).1 = true then ((nuF t n m (numF t n (a + 1)).2.1).1, (nuF t n m (numF t n (a + 1)).2.1).2.1, (numF t n (a + 1)).2.2 :: (nuF t n m (numF t n (a + 1)).2.1).2.2) else (false, (numF t n (a + 1)).2.1, [(numF t n (a + 1)).2.2])) else (false, a, [])
def wrN (g : Nat → Int32) (p : Nat) : List Int32 → Nat → Int32
  | [] => g
  | v :: l => wrN (upd g p v) (p + 1) l
theorem wrN_out : ∀ (l : List Int32) (g : Nat → Int32) (p j : Nat), j < p → wrN g p l j = g j := by
  intro l
  induction l with
  | nil => intro g p j _; rfl
  | cons v l ih =>
    intro g p j h
    rw [wrN, ih _ _ _ (by omega), up_n (by omega)]
theorem wrN_in : ∀ (l : List Int32) (g : Nat → Int32) (p j : Nat), j < l.length → wrN g p l (p + j) = l.getD j 0 := by
  intro l
  induction l with
  | nil => intro g p j h; exact absurd h (Nat.not_lt_zero j)
  | cons v l ih =>
    intro g p j h
    rw [wrN]
    cases j with
    | zero =>
      show wrN (upd g p v) (p + 1) l p = v
      rw [wrN_out _ _ _ _ (by omega), up_s]
    | succ j =>
      have h' : j < l.length := by
        have : (v :: l).length = l.length + 1 := rfl
        omega
      rw [show p + (j + 1) = p + 1 + j by omega, ih _ _ _ h']
      rfl
theorem nuF_le {t : Nat → Int32} {n : Nat} : ∀ m a, a ≤ n → a ≤ (nuF t n m a).2.1 ∧ (nuF t n m a).2.1 ≤ n ∧ ((nuF t n m a).1 = true → (nuF t n m a).2.2.length = m) := by
  intro m
  induction m with
  | zero => intro a h; exact ⟨Nat.le_refl _, h, fun _ => rfl⟩
  | succ m ih =>
    intro a h
    rw [nuF]
    by_cases c : a < n ∧ t a = 32
    · obtain ⟨i1, i2⟩ := numF_le (t := t) (n := n) (a := a + 1) (by omega)
      obtain ⟨j1, j2, j3⟩ := ih _ i2
      rw [if_pos c]
      by_cases d : (numF t n (a + 1)).1 = true
      · rw [if_pos d]
        refine ⟨by show a ≤ (nuF t n m (numF t n (a + 1)).2.1).2.1; omega, j2, fun q => ?_⟩
        show (nuF t n m (numF t n (a + 1)).2.1).2.2.length + 1 = _
        rw [j3 q]
      · rw [if_neg d]
        exact ⟨by show a ≤ (numF t n (a + 1)).2.1; omega, i2, fun q => by cases q⟩
    · rw [if_neg c]
      exact ⟨Nat.le_refl _, h, fun q => by cases q⟩
def cntW (k : Nat) : Nat := if k = 0 then 3 else if k < 3 then 2 else if k = 3 then 1 else 0
theorem cntW_le (k : Nat) : cntW k ≤ 3 := by unfold cntW; split <;> (try split) <;> (try split) <;> omega
theorem nBehind : ∀ k, k < 8 → ∀ w : rW, J_X4_numbersBehind (nI k) w = some (nI (cntW k)) ∧ J_X10_numbersOf (nI k) w = some (nI (cntW k)) := by
  intro k hk w
  have : k = 0 ∨ k = 1 ∨ k = 2 ∨ k = 3 ∨ k = 4 ∨ k = 5 ∨ k = 6 ∨ k = 7 := by omega
  unfold J_X4_numbersBehind J_X10_numbersOf
  rcases this with rfl | rfl | rfl | rfl | rfl | rfl | rfl | rfl <;> exact ⟨rfl, rfl⟩
theorem ix3 (c i : Nat) : (nI c * 3) + nI i = nI (3 * c + i) ∧ (3 * nI c) + nI i = nI (3 * c + i) := by
  have e : (3 : Int32) = nI 3 := by decide
  rw [e, pk_mul, pk_mul, nI_add, nI_add, Nat.mul_comm c 3]
  exact ⟨rfl, rfl⟩
theorem nums43 {t : Nat → Int32} {n k c : Nat} (hk : k < 8) (hc : c < 12) : ∀ m f i a S, TS t n a S → i + m = cntW k → m < f → J_X4_parseClause_20 43 (nI c) (nI k) f (nI i) (Wd S) = some ((nuF t n m a).1, Wd (sa (si S 43 5 (nI (nuF t n m a).2.1)) 46 (wrN (S.2.2.1 46) (3 * c + i) (nuF t n m a).2.2))) := by
  have hw := cntW_le k
  intro m
  induction m with
  | zero =>
    intro f i a S h hi hf
    obtain ⟨f, rfl⟩ : ∃ q, f = q + 1 := ⟨f - 1, by omega⟩
    have hi : i = cntW k := by omega
    rw [J_X4_parseClause_20, (nBehind k hk _).1, bs, hi, if_pos (nI_refl (by omega)), nuF]
    show some (true, Wd S) = some (true, Wd (sa (si S 43 5 (nI a)) 46 (S.2.2.1 46)))
    rw [si5_id h, sa_id]
  | succ m ih =>
    intro f i a S h hi hf
    obtain ⟨f, rfl⟩ : ∃ q, f = q + 1 := ⟨f - 1, by omega⟩
    rw [J_X4_parseClause_20, (nBehind k hk _).1, bs, if_neg (nI_ge (by omega) (by omega)), passSign43 h, nuF]
    by_cases c1 : a < n ∧ t a = 32
    · have e2 := parseNumber43 (TS_at h (show a + 1 ≤ n by omega)) (p := 3 * c + i) (by omega)
      have rd : ∀ x, (si S 43 5 x).2.2.1 46 = S.2.2.1 46 := fun x => rfl
      rw [rd, si_si5] at e2
      rw [if_pos c1, if_pos c1, rB2_e, if_neg (by decide), (ix3 c i).1, e2, rB2_e]
      by_cases d : (numF t n (a + 1)).1 = true
      · obtain ⟨i1, i2⟩ := numF_le (t := t) (n := n) (a := a + 1) (by omega)
        have h' : TS t n (numF t n (a + 1)).2.1 (sa (si S 43 5 (nI (numF t n (a + 1)).2.1)) 46 (upd (S.2.2.1 46) (3 * c + i) (numF t n (a + 1)).2.2)) := by
          obtain ⟨h1, h2, h3, h4, h5⟩ := h
          exact ⟨h1, i2, h3, rfl, h5⟩
        rw [if_pos d, d, if_neg (by decide), rLet_eq, nI_1, ih f (i + 1) _ _ h' (by omega) (by omega)]
        have rd2 : (sa (si S 43 5 (nI (numF t n (a + 1)).2.1)) 46 (upd (S.2.2.1 46) (3 * c + i) (numF t n (a + 1)).2.2)).2.2.1 46 = upd (S.2.2.1 46) (3 * c + i) (numF t n (a + 1)).2.2 := rfl
        rw [rd2, si_sa, si_si5, sa_ss]
        rfl
      · have d' : (numF t n (a + 1)).1 = false := by simpa using d
        rw [if_neg d, d', if_pos (by decide)]
        rfl
    · rw [if_neg c1, if_neg c1, rB2_e, if_pos (by decide)]
      show some (false, Wd S) = some (false, Wd (sa (si S 43 5 (nI a)) 46 (S.2.2.1 46)))
      rw [si5_id h, sa_id]
theorem nums60 {t : Nat → Int32} {n k c : Nat} (hk : k < 8) (hc : c < 12) (K' : rW → Option (Bool × rW)) : ∀ m f i a M, TM t n a M → M.1 60 23 = nI c → i + m = cntW k → m < f → J_X10_reads_33 60 (nI k) K' f (nI i) (Wd M) = if (nuF t n m a).1 = true then K' (Wd (sa (si M 60 20 (nI (nuF t n m a).2.1)) 74 (wrN (M.2.2.1 74) (3 * c + i) (nuF t n m a).2.2))) else some (false, Wd (sa (si M 60 20 (nI (nuF t n m a).2.1)) 74 (wrN (M.2.2.1 74) (3 * c + i) (nuF t n m a).2.2))) := by
  have hw := cntW_le k
  intro m
  induction m with
  | zero =>
    intro f i a M h h23 hi hf
    obtain ⟨f, rfl⟩ : ∃ q, f = q + 1 := ⟨f - 1, by omega⟩
    have hi : i = cntW k := by omega
    rw [J_X10_reads_33, (nBehind k hk _).2, bs, hi, if_pos (nI_refl (by omega)), nuF]
    show K' (Wd M) = K' (Wd (sa (si M 60 20 (nI a)) 74 (M.2.2.1 74)))
    rw [si20_id h, sa_id]
  | succ m ih =>
    intro f i a M h h23 hi hf
    obtain ⟨f, rfl⟩ : ∃ q, f = q + 1 := ⟨f - 1, by omega⟩
    have e2 := numeral60 h (p := 3 * c + i) (by omega)
    rw [J_X10_reads_33, (nBehind k hk _).2, bs, if_neg (nI_ge (by omega) (by omega)), wf_60_23, bs, h23, (ix3 c i).2, e2, nuF]
    by_cases c1 : a < n ∧ t a = 32
    · rw [if_pos c1, if_pos c1, rB2_e]
      by_cases d : (numF t n (a + 1)).1 = true
      · obtain ⟨i1, i2⟩ := numF_le (t := t) (n := n) (a := a + 1) (by omega)
        have h' : TM t n (numF t n (a + 1)).2.1 (sa (si M 60 20 (nI (numF t n (a + 1)).2.1)) 74 (upd (M.2.2.1 74) (3 * c + i) (numF t n (a + 1)).2.2)) := by
          obtain ⟨h1, h2, h3, h4, h5⟩ := h
          exact ⟨h1, i2, h3, rfl, h5⟩
        rw [if_pos d, d, if_neg (by decide), rLet_eq, nI_1, ih f (i + 1) _ _ h' h23 (by omega) (by omega)]
        have rd2 : (sa (si M 60 20 (nI (numF t n (a + 1)).2.1)) 74 (upd (M.2.2.1 74) (3 * c + i) (numF t n (a + 1)).2.2)).2.2.1 74 = upd (M.2.2.1 74) (3 * c + i) (numF t n (a + 1)).2.2 := rfl
        rw [rd2, si_sa, si_si20, sa_ss]
        rfl
      · have d' : (numF t n (a + 1)).1 = false := by simpa using d
        rw [if_neg d, d', if_pos (by decide)]
        rfl
    · rw [if_neg c1, if_neg c1, rB2_e, if_pos (by decide)]
      show some (false, Wd M) = some (false, Wd (sa (si M 60 20 (nI a)) 74 (M.2.2.1 74)))
      rw [si20_id h, sa_id]

/-! PARTINGS, PURE: numbers in nibbles, covers of a part, the sets of t points -/
def hx : Nat → (Nat → Nat) → Nat
  | 0, _ => 0
  | n + 1, d => d 0 + 16 * hx n (fun i => d (i + 1))
theorem hx_congr : ∀ (n : Nat) (d e : Nat → Nat), (∀ i, i < n → d i = e i) → hx n d = hx n e := by
  intro n
  induction n with
  | zero => intro d e _; rfl
  | succ n ih =>
    intro d e h
    rw [hx, hx, h 0 (by omega), ih _ _ (fun i hi => h (i + 1) (by omega))]
theorem hx_add : ∀ (n : Nat) (d e : Nat → Nat), hx n d + hx n e = hx n (fun i => d i + e i) := by
  intro n
  induction n with
  | zero => intro d e; rfl
  | succ n ih =>
    intro d e
    have h := ih (fun i => d (i + 1)) (fun i => e (i + 1))
    rw [hx, hx, hx, ← h]
    omega
theorem hx_lt : ∀ (n : Nat) (d : Nat → Nat), (∀ i, i < n → d i ≤ 15) → hx n d < 16 ^ n := by
  intro n
  induction n with
  | zero => intro d _; show 0 < 1; decide
  | succ n ih =>
    intro d h
    have h1 := ih (fun i => d (i + 1)) (fun i hi => h (i + 1) (by omega))
    have h2 := h 0 (by omega)
    rw [hx, Nat.pow_succ]
    omega
theorem and16 {a b c d : Nat} (ha : a < 16) (hc : c < 16) : (a + 16 * b) &&& (c + 16 * d) = (a &&& c) + 16 * (b &&& d) := by
  have h1 : ((a + 16 * b) &&& (c + 16 * d)) % 2 ^ 4 = a &&& c := by
    rw [Nat.and_mod_two_pow]
    congr 1 <;> omega
  have h2 : ((a + 16 * b) &&& (c + 16 * d)) / 2 ^ 4 = b &&& d := by
    rw [Nat.and_div_two_pow]
    congr 1 <;> omega
  have h3 := Nat.mod_add_div ((a + 16 * b) &&& (c + 16 * d)) (2 ^ 4)
  rw [h1, h2] at h3
  omega
theorem nib8 : ∀ a, a < 16 → ((a &&& 8 = 0) ↔ a < 8) := by decide
theorem hx_and : ∀ (n : Nat) (d : Nat → Nat), (∀ i, i < n → d i ≤ 15) → (hx n d &&& hx n (fun _ => 8) = 0 ↔ ∀ i, i < n → d i < 8) := by
  intro n
  induction n with
  | zero => intro d _; exact ⟨fun _ i hi => absurd hi (Nat.not_lt_zero i), fun _ => (by decide : (0 : Nat) &&& 0 = 0)⟩
  | succ n ih =>
    intro d h
    have h1 := ih (fun i => d (i + 1)) (fun i hi => h (i + 1) (by omega))
    have h2 := h 0 (by omega)
    have h3 := nib8 (d 0) (by omega)
    rw [hx, hx, and16 (by omega) (by omega)]
    constructor
    · intro q i hi
      cases i with
      | zero => exact h3.mp (by omega)
      | succ i => exact h1.mp (by omega) i (by omega)
    · intro q
      have q1 := h3.mpr (q 0 (by omega))
      have q2 := h1.mpr (fun i hi => q (i + 1) (by omega))
      omega
/-- the set of t points at nibble i -/
def sx (V T i : Nat) : Nat := if T = 1 then (if i < V then 2 ^ i else 255) else if i < V * (V - 1) / 2 then [3, 5, 6, 9, 10, 12, 17, 18, 20, 24, 33, 34, 36, 40, 48].getD i 255 else 255
theorem sx_al0 : ∀ v, v < 3 → ∀ t, t < 2 → ∀ x, x < 2 ^ (v + 4) → pc x = t + 1 → ∃ i, i < 15 ∧ sx (v + 4) (t + 1) i = x := by decide +kernel
theorem sx_all (V : Nat) (h1 : V < 7) (T : Nat) (h2 : T < 3) (h3 : 4 ≤ V) (h4 : 1 ≤ T) : ∀ x, x < 2 ^ V → pc x = T → ∃ i, i < 15 ∧ sx V T i = x := by
  obtain ⟨v, rfl⟩ : ∃ v, V = v + 4 := ⟨V - 4, by omega⟩
  obtain ⟨t, rfl⟩ : ∃ t, T = t + 1 := ⟨T - 1, by omega⟩
  exact sx_al0 v (by omega) t (by omega)
theorem sx_of0 : ∀ v, v < 3 → ∀ t, t < 2 → ∀ i, i < 15 → (sx (v + 4) (t + 1) i < 2 ^ (v + 4) ∧ pc (sx (v + 4) (t + 1) i) = t + 1) ∨ sx (v + 4) (t + 1) i = 255 := by decide +kernel
theorem sx_of (V : Nat) (h1 : V < 7) (T : Nat) (h2 : T < 3) (h3 : 4 ≤ V) (h4 : 1 ≤ T) : ∀ i, i < 15 → (sx V T i < 2 ^ V ∧ pc (sx V T i) = T) ∨ sx V T i = 255 := by
  obtain ⟨v, rfl⟩ : ∃ v, V = v + 4 := ⟨V - 4, by omega⟩
  obtain ⟨t, rfl⟩ : ∃ t, T = t + 1 := ⟨T - 1, by omega⟩
  exact sx_of0 v (by omega) t (by omega)
theorem sx_lt : ∀ V, V < 7 → ∀ T, T < 3 → ∀ i, i < 15 → sx V T i < 256 := by decide +kernel
theorem sx_00 : ∀ v, v < 3 → ∀ t, t < 2 → sx (v + 4) (t + 1) 0 = 2 ^ (t + 1) - 1 ∧ 2 ^ (t + 1) - 1 < 2 ^ (v + 4) ∧ pc (2 ^ (t + 1) - 1) = t + 1 := by decide +kernel
theorem sx_0 (V : Nat) (h1 : V < 7) (T : Nat) (h2 : T < 3) (h3 : 4 ≤ V) (h4 : 1 ≤ T) : sx V T 0 = 2 ^ T - 1 ∧ 2 ^ T - 1 < 2 ^ V ∧ pc (2 ^ T - 1) = T := by
  obtain ⟨v, rfl⟩ : ∃ v, V = v + 4 := ⟨V - 4, by omega⟩
  obtain ⟨t, rfl⟩ : ∃ t, T = t + 1 := ⟨T - 1, by omega⟩
  exact sx_00 v (by omega) t (by omega)
def subB (V K b x : Nat) : Prop := (BT V K b &&& x) = x
theorem no255 {V K b : Nat} (hV : V ≤ 6) (hb : b < MB V K) : ¬ (BT V K b &&& 255) = 255 := by
  have h1 := (pr_lt (BT_in hb).1).1
  have h2 : BT V K b &&& 255 ≤ BT V K b := Nat.and_le_left
  have h3 : 2 ^ V ≤ 2 ^ 6 := Nat.pow_le_pow_right (by decide) hV
  omega
theorem cv_congr {V K p x : Nat} {a a' : Nat → Nat} : ∀ b, (∀ j, j < b → a' j = a j) → cvN V K a' p x b = cvN V K a p x b := by
  intro b
  induction b with
  | zero => intro _; rfl
  | succ b ih =>
    intro h
    rw [cvN, cvN, ih (fun j hj => h j (by omega)), h b (by omega)]
theorem cv_upd {V K p q x b : Nat} {a : Nat → Nat} : cvN V K (updN a b p) q x (b + 1) = cvN V K a q x b + (if p = q ∧ (BT V K b &&& x) = x then 1 else 0) := by
  have h : ∀ j, j < b → updN a b p j = a j := fun j hj => by unfold updN; rw [if_neg (by omega)]
  rw [cvN, cv_congr b h]
  have e : updN a b p b = p := by unfold updN; rw [if_pos rfl]
  rw [e]
theorem cv_255 {V K p : Nat} {a : Nat → Nat} (hV : V ≤ 6) : ∀ b, b ≤ MB V K → cvN V K a p 255 b = 0 := by
  intro b
  induction b with
  | zero => intro _; rfl
  | succ b ih =>
    intro h
    rw [cvN, ih (by omega), if_neg (fun q => no255 hV (by omega) q.2)]
theorem cv_le {V K p x : Nat} {a : Nat → Nat} : ∀ b, cvN V K a p x b ≤ b := by
  intro b
  induction b with
  | zero => exact Nat.le_refl _
  | succ b ih =>
    rw [cvN]
    split <;> omega
theorem dOk_iff {V K T ix b p : Nat} {a : Nat → Nat} : dOk V K T ix a b p = true ↔ ∀ x, x < 2 ^ V → pc x = T → (BT V K b &&& x) = x → cvN V K a p x b < ix := by
  unfold dOk
  constructor
  · intro h x h1 h2 h3
    cases h4 : rFd (dBad V K T ix a b p) (2 ^ V) 0 with
    | some j => rw [h4] at h; cases h
    | none =>
      have h5 := (rFd_none _ _).mp h4 x (Nat.zero_le _) (by omega)
      unfold dBad at h5
      rw [decide_eq_true h2, decide_eq_true h3, Bool.true_and, Bool.true_and, decide_eq_false_iff_not] at h5
      omega
  · intro h
    have h4 : rFd (dBad V K T ix a b p) (2 ^ V) 0 = none := (rFd_none _ _).mpr (fun x _ h1 => by
      unfold dBad
      by_cases h2 : pc x = T
      · by_cases h3 : (BT V K b &&& x) = x
        · have h5 := h x (by omega) h2 h3
          rw [decide_eq_true h2, decide_eq_true h3, Bool.true_and, Bool.true_and, decide_eq_false_iff_not]
          omega
        · rw [decide_eq_false h3, Bool.false_and, Bool.and_false]
      · rw [decide_eq_false h2, Bool.false_and])
    rw [h4]
    rfl
/-- no set of t points too often in any part -/
def Iv (V K T ix m : Nat) (a : Nat → Nat) (b : Nat) : Prop := ∀ p, p < m → ∀ x, x < 2 ^ V → pc x = T → cvN V K a p x b ≤ ix
theorem Iv_0 {V K T ix m : Nat} {a : Nat → Nat} : Iv V K T ix m a 0 := fun _ _ _ _ _ => Nat.zero_le _
theorem Iv_s {V K T ix m b p : Nat} {a : Nat → Nat} (h : Iv V K T ix m a b) (g : dOk V K T ix a b p = true) : Iv V K T ix m (updN a b p) (b + 1) := by
  intro q hq x h1 h2
  have h3 := h q hq x h1 h2
  rw [cv_upd]
  by_cases h4 : p = q ∧ (BT V K b &&& x) = x
  · have h5 := dOk_iff.mp g x h1 h2 h4.2
    rw [if_pos h4]
    rw [h4.1] at h5
    omega
  · rw [if_neg h4]
    exact h3
def hN (V K x : Nat) : Nat → Nat
  | 0 => 0
  | b + 1 => hN V K x b + (if (BT V K b &&& x) = x then 1 else 0)
def sN (f : Nat → Nat) : Nat → Nat
  | 0 => 0
  | n + 1 => sN f n + f n
theorem sN_congr {f g : Nat → Nat} : ∀ n, (∀ i, i < n → f i = g i) → sN f n = sN g n := by
  intro n
  induction n with
  | zero => intro _; rfl
  | succ n ih =>
    intro h
    rw [sN, sN, ih (fun i hi => h i (by omega)), h n (by omega)]
theorem sN_0 : ∀ n, sN (fun _ => 0) n = 0 := by
  intro n
  induction n with
  | zero => rfl
  | succ n ih => rw [sN, ih]
theorem sN_add (f g : Nat → Nat) : ∀ n, sN (fun i => f i + g i) n = sN f n + sN g n := by
  intro n
  induction n with
  | zero => rfl
  | succ n ih =>
    rw [sN, sN, sN, ih]
    omega
theorem sN_le {f : Nat → Nat} {c : Nat} : ∀ n, (∀ i, i < n → f i ≤ c) → sN f n ≤ n * c := by
  intro n
  induction n with
  | zero => intro _; exact Nat.zero_le _
  | succ n ih =>
    intro h
    have h1 := ih (fun i hi => h i (by omega))
    have h2 := h n (by omega)
    rw [sN, Nat.succ_mul]
    omega
theorem sN_one {q c : Nat} : ∀ n, q < n → sN (fun p => if q = p then c else 0) n = c := by
  intro n
  induction n with
  | zero => intro h; exact absurd h (Nat.not_lt_zero q)
  | succ n ih =>
    intro h
    rw [sN]
    by_cases hq : q = n
    · subst hq
      rw [if_pos rfl, sN_congr (g := fun _ => 0) q (fun i hi => if_neg (by omega)), sN_0, Nat.zero_add]
    · rw [if_neg hq, ih (by omega), Nat.add_zero]
theorem cv_sum {V K x o : Nat} {a : Nat → Nat} : ∀ b, (∀ j, j < b → a j < o) → sN (fun p => cvN V K a p x b) o = hN V K x b := by
  intro b
  induction b with
  | zero => intro _; exact sN_0 o
  | succ b ih =>
    intro h
    have h1 := ih (fun j hj => h j (by omega))
    have h2 := sN_add (fun p => cvN V K a p x b) (fun p => if a b = p ∧ (BT V K b &&& x) = x then 1 else 0) o
    rw [hN, ← h1]
    refine Eq.trans h2 (congrArg (sN (fun p => cvN V K a p x b) o + ·) ?_)
    by_cases h3 : (BT V K b &&& x) = x
    · rw [if_pos h3]
      refine (sN_congr o (fun i _ => ?_)).trans (sN_one (q := a b) (c := 1) o (h b (by omega)))
      by_cases h4 : a b = i
      · rw [if_pos ⟨h4, h3⟩, if_pos h4]
      · rw [if_neg (fun q => h4 q.1), if_neg h4]
    · rw [if_neg h3]
      exact (sN_congr o (fun i _ => if_neg (fun q => h3 q.2))).trans (sN_0 o)
theorem hN_de0 : ∀ v, v < 3 → ∀ k, k < 2 → ∀ t, t < k + 1 → hN (v + 4) (k + 2) (2 ^ (t + 1) - 1) (MB (v + 4) (k + 2)) = dAll (v + 4) (k + 2) (t + 1) ∧ 1 ≤ dAll (v + 4) (k + 2) (t + 1) ∧ dAll (v + 4) (k + 2) (t + 1) ≤ 10 := by decide +kernel
theorem hN_dec (V : Nat) (h1 : V < 7) (K : Nat) (h2 : K < 4) (T : Nat) (h3 : T < K) (h4 : 4 ≤ V) (h5 : 2 ≤ K) (h6 : 1 ≤ T) : hN V K (2 ^ T - 1) (MB V K) = dAll V K T ∧ 1 ≤ dAll V K T ∧ dAll V K T ≤ 10 := by
  obtain ⟨v, rfl⟩ : ∃ v, V = v + 4 := ⟨V - 4, by omega⟩
  obtain ⟨k, rfl⟩ : ∃ k, K = k + 2 := ⟨K - 2, by omega⟩
  obtain ⟨t, rfl⟩ : ∃ t, T = t + 1 := ⟨T - 1, by omega⟩
  exact hN_de0 v (by omega) k (by omega) t (by omega)
theorem dLk_V {V K T : Nat} (hk : Ok3 V K T) (h : dLk V K T) : V ≤ 6 ∧ MB V K ≤ 20 := by
  obtain ⟨h1, h2, h3, h4, h5, h6⟩ := id hk
  have hM : MB V K ≤ 20 := by
    have h' : MB V K ≤ (if T + 1 = K then 20 else 10) := h
    revert h'
    split <;> omega
  refine ⟨?_, hM⟩
  have big : ∀ V, V < 9 → 7 ≤ V → ∀ K, K < 4 → 2 ≤ K → 20 < MB V K := by decide +kernel
  by_cases h7 : 7 ≤ V
  · have := big V (by omega) h7 K (by omega) (by omega)
    omega
  · omega
/-- at the end every part is begun -/
theorem all_begun {V K T ix m o : Nat} {a : Nat → Nat} (hk : Ok3 V K T) (h6 : V ≤ 6) (hix : dAll V K T = ix * m) (ha : ∀ j, j < MB V K → a j < o) (hom : o ≤ m) (h : Iv V K T ix m a (MB V K)) : m ≤ o := by
  obtain ⟨k1, k2, k3, k4, k5, k6⟩ := hk
  obtain ⟨d1, d2, -⟩ := hN_dec V (by omega) K (by omega) T k6 k1 k3 k5
  obtain ⟨-, d4, d5⟩ := sx_0 V (by omega) T (by omega) k1 k5
  have h1 := cv_sum (V := V) (K := K) (x := 2 ^ T - 1) (MB V K) ha
  have h2 := sN_le (f := fun p => cvN V K a p (2 ^ T - 1) (MB V K)) (c := ix) o (fun p hp => h p (by omega) _ d4 d5)
  rw [h1, d1, hix, Nat.mul_comm o ix] at h2
  refine Nat.le_of_mul_le_mul_left h2 ?_
  rcases Nat.eq_zero_or_pos ix with e | e
  · rw [e, Nat.zero_mul] at hix
    omega
  · exact e
/-! the tallies -/
def tD (V K T ix : Nat) (a : Nat → Nat) (p b i : Nat) : Nat := 7 - ix + cvN V K a p (sx V T i) b
def sD (V K T b i : Nat) : Nat := if (BT V K b &&& sx V T i) = sx V T i then 1 else 0
theorem lN_e {a b : Nat} (ha : a < 2 ^ 64) (hb : b < 2 ^ 64) : lN a = lN b ↔ a = b := by
  refine ⟨fun h => ?_, fun h => by rw [h]⟩
  have h1 := congrArg (fun x : Int64 => x.toBitVec.toNat) h
  have h2 : ∀ n, (lN n).toBitVec.toNat = n % 2 ^ 64 := fun n => BitVec.toNat_ofNat n 64
  have h3 : a % 2 ^ 64 = b % 2 ^ 64 := (h2 a).symm.trans (h1.trans (h2 b))
  rw [Nat.mod_eq_of_lt ha, Nat.mod_eq_of_lt hb] at h3
  exact h3
theorem td_le {V K T ix m b p : Nat} {a : Nat → Nat} (hk : Ok3 V K T) (h6 : V ≤ 6) (h7 : ix ≤ 7) (hb : b ≤ MB V K) (h : Iv V K T ix m a b) (hp : p < m) : ∀ i, i < 15 → cvN V K a p (sx V T i) b ≤ ix ∧ tD V K T ix a p b i ≤ 7 := by
  obtain ⟨k1, k2, k3, k4, k5, k6⟩ := hk
  intro i hi
  have h1 : cvN V K a p (sx V T i) b ≤ ix := by
    rcases sx_of V (by omega) T (by omega) k1 k5 i hi with h1 | h1
    · exact h p hp _ h1.1 h1.2
    · rw [h1, cv_255 h6 b hb]
      exact Nat.zero_le _
  refine ⟨h1, ?_⟩
  unfold tD
  omega
theorem over8 : hx 15 (fun _ => 8) = 614891469123651720 := by decide
theorem tally {V K T ix m b p : Nat} {a : Nat → Nat} (hk : Ok3 V K T) (h6 : V ≤ 6) (h7 : ix ≤ 7) (hb : b < MB V K) (h : Iv V K T ix m a b) (hp : p < m) : (lg_cmp ((lN (hx 15 (tD V K T ix a p b)) + lN (hx 15 (sD V K T b))) &&& 614891469123651720) 0 = 0 ↔ dOk V K T ix a b p = true) ∧ lN (hx 15 (tD V K T ix a p b)) + lN (hx 15 (sD V K T b)) = lN (hx 15 (tD V K T ix (updN a b p) p (b + 1))) := by
  have h1 := td_le hk h6 h7 (by omega) h hp
  obtain ⟨k1, k2, k3, k4, k5, k6⟩ := hk
  have s1 : ∀ i, sD V K T b i ≤ 1 := fun i => by unfold sD; split <;> omega
  have h2 : ∀ i, i < 15 → tD V K T ix a p b i + sD V K T b i ≤ 15 := fun i hi => by
    have := (h1 i hi).2
    have := s1 i
    omega
  have e1 : lN (hx 15 (tD V K T ix a p b)) + lN (hx 15 (sD V K T b)) = lN (hx 15 (fun i => tD V K T ix a p b i + sD V K T b i)) := by rw [lN_add, hx_add]
  have l1 := hx_lt 15 (fun i => tD V K T ix a p b i + sD V K T b i) h2
  have l2 : (16 : Nat) ^ 15 < 2 ^ 64 := by decide
  have c8 : (614891469123651720 : Int64) = lN (hx 15 (fun _ => 8)) := by rw [over8]; rfl
  refine ⟨?_, ?_⟩
  · rw [e1, c8, an_l (by omega) (by rw [over8]; decide), lg_eq0, show (0 : Int64) = lN 0 from rfl, lN_e (Nat.and_lt_two_pow _ (by rw [over8]; decide)) (by decide), hx_and 15 _ h2, dOk_iff]
    constructor
    · intro q x x1 x2 x3
      obtain ⟨i, i1, i2⟩ := sx_all V (by omega) T (by omega) k1 k5 x x1 x2
      have q1 := q i i1
      have e2 : sD V K T b i = 1 := by unfold sD; rw [i2, if_pos x3]
      rw [e2] at q1
      unfold tD at q1
      rw [i2] at q1
      omega
    · intro q i hi
      have q1 := h1 i hi
      by_cases q2 : (BT V K b &&& sx V T i) = sx V T i
      · have q3 : cvN V K a p (sx V T i) b < ix := by
          rcases sx_of V (by omega) T (by omega) k1 k5 i hi with h3 | h3
          · exact q _ h3.1 h3.2 q2
          · rw [h3] at q2
            exact absurd q2 (no255 h6 hb)
        have e2 : sD V K T b i = 1 := by unfold sD; rw [if_pos q2]
        rw [e2]
        unfold tD
        omega
      · have e2 : sD V K T b i = 0 := by unfold sD; rw [if_neg q2]
        rw [e2]
        have := q1.2
        omega
  · rw [e1]
    refine congrArg lN (hx_congr 15 _ _ (fun i _ => ?_))
    unfold tD sD
    rw [cv_upd]
    by_cases q2 : (BT V K b &&& sx V T i) = sx V T i
    · rw [if_pos q2, if_pos ⟨rfl, q2⟩]
      omega
    · rw [if_neg q2, if_neg (fun q => q2 q.2)]
      rfl
theorem tally_o {V K T ix b p q : Nat} {a : Nat → Nat} (h : q ≠ p) : hx 15 (tD V K T ix (updN a b p) q (b + 1)) = hx 15 (tD V K T ix a q b) := by
  refine hx_congr 15 _ _ (fun i _ => ?_)
  unfold tD
  rw [cv_upd, if_neg (fun r => h r.1.symm)]
  rfl

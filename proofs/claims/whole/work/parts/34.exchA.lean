/-! TWO POINTS CHANGE PLACES -/
def exS (s p q : Nat) : Nat := if s / 2 ^ p % 2 = s / 2 ^ q % 2 then s else if s / 2 ^ p % 2 = 1 then s - 2 ^ p + 2 ^ q else s + 2 ^ p - 2 ^ q
def wpeI (x : Int64) (a b : Int32) : Int64 := if (lg_cmp ((x >>> (Int32.toInt64 a &&& 63)) &&& 1) ((x >>> (Int32.toInt64 b &&& 63)) &&& 1)) = 0 then x else x ^^^ ((1 <<< (Int32.toInt64 a &&& 63)) ||| (1 <<< (Int32.toInt64 b &&& 63)))
def mxH (x p q : Int32) : Int32 := x &&& ((((1 : Int32) <<< (p &&& 31)) ||| ((1 : Int32) <<< (q &&& 31))) ^^^ (-1 : Int32))
def mxA (x p q : Int32) : Int32 := if ((x >>> (p &&& 31)) &&& 1) = 1 then mxH x p q ||| ((1 : Int32) <<< (q &&& 31)) else mxH x p q
def mxI (x p q : Int32) : Int32 := if ((x >>> (q &&& 31)) &&& 1) = 1 then mxA x p q ||| ((1 : Int32) <<< (p &&& 31)) else mxA x p q
theorem wpe_eq (x : Int64) (a b : Int32) (w : rW) : J_X9_withPlacesExchanged x a b w = some (wpeI x a b) := by
  unfold J_X9_withPlacesExchanged wpeI
  simp only [rLet_eq]
  by_cases h : (lg_cmp ((x >>> (Int32.toInt64 a &&& 63)) &&& 1) ((x >>> (Int32.toInt64 b &&& 63)) &&& 1)) = 0
  · rw [if_pos h, if_pos h]; rfl
  · rw [if_neg h, if_neg h]; rfl
theorem bj_eq (a b : Bool) : (bj a = bj b) ↔ a = b := by cases a <;> cases b <;> decide
theorem tb_wpe {a b : Nat} (ha : a < 64) (hb : b < 64) (x : Int64) (i : Nat) : tb (wpeI x (nI a) (nI b)) i = if i = a then tb x b else if i = b then tb x a else tb x i := by
  unfold wpeI
  rw [tb_one, tb_one, tb_shr ha, tb_shr hb]
  have h0 : (lg_cmp (bj (tb x a)) (bj (tb x b)) = 0) ↔ tb x a = tb x b := (lg_eq0 _ _).trans (bj_eq _ _)
  by_cases h : tb x a = tb x b
  · rw [if_pos (h0.mpr h)]
    by_cases h1 : i = a
    · rw [if_pos h1, h1, h]
    · rw [if_neg h1]
      by_cases h2 : i = b
      · rw [if_pos h2, h2, h]
      · rw [if_neg h2]
  · rw [if_neg (fun q => h (h0.mp q)), tb_xor, tb_or, tb_shl1 ha, tb_shl1 hb]
    by_cases h1 : i = a
    · subst h1
      rw [if_pos rfl]
      revert h
      cases tb x i <;> cases tb x b <;> simp
    · rw [if_neg h1]
      by_cases h2 : i = b
      · subst h2
        rw [if_pos rfl]
        revert h
        cases tb x i <;> cases tb x a <;> simp
      · rw [if_neg h2]
        simp [h1, h2]
theorem ex_1 : ∀ s, s < 256 → ∀ p, p < 8 → ∀ q, q < 8 → (decide (Int64.toInt32 (wpeI (Int32.toInt64 (nI s)) (nI p) (nI q)) = nI (exS s p q)) && decide (mxI (nI s) (nI p) (nI q) = nI (exS s p q))) = true := by decide +kernel
theorem ex_2 : ∀ s, s < 256 → ∀ p, p < 8 → ∀ q, q < 8 → (decide (pc (exS s p q) = pc s) && decide (exS (exS s p q) p q = s)) = true := by decide +kernel
theorem ex_3 : ∀ v, v < 9 → ∀ p, p < v → ∀ q, q < v → ∀ s, s < 2 ^ v → exS s p q < 2 ^ v := by decide +kernel
/-- the block that a block becomes -/
def sig (V K p q b : Nat) : Nat := cnt V K (exS (BT V K b) p q)
theorem sig_ok {V K p q b : Nat} (hV : V ≤ 8) (hp : p < V) (hq : q < V) (hb : b < MB V K) : exS (BT V K b) p q < 256 ∧ pr V K (exS (BT V K b) p q) = true ∧ sig V K p q b < MB V K ∧ BT V K (sig V K p q b) = exS (BT V K b) p q ∧ sig V K p q (sig V K p q b) = b := by
  obtain ⟨h1, h2, h3⟩ := BT_in hb
  obtain ⟨h4, h5⟩ := pr_lt h1
  have h6 := ex_3 V (by omega) p hp q hq _ h4
  have h7 := ex_2 _ h2 p (by omega) q (by omega)
  rw [Bool.and_eq_true, decide_eq_true_eq, decide_eq_true_eq] at h7
  have h8 := p2_le hV
  have h9 : pr V K (exS (BT V K b) p q) = true := by
    unfold pr
    simp [h6, h7.1, h5]
  have h10 : BT V K (sig V K p q b) = exS (BT V K b) p q := BT_at (by omega) h9
  refine ⟨by omega, h9, cnt_lt (by omega) h9, h10, ?_⟩
  unfold sig at *
  rw [h10, h7.2, h3]
/-- one step of the class: counts, design, kept -/
def exF (V K p q b : Nat) (s : (Nat → Int32) × Int64 × Int64) : (Nat → Int32) × Int64 × Int64 := if sig V K p q b ≤ b then s else (upd (upd s.1 b (s.1 (sig V K p q b))) (sig V K p q b) (s.1 b), wpeI s.2.1 (nI b) (nI (sig V K p q b)), wpeI s.2.2 (nI b) (nI (sig V K p q b)))
theorem exF_ok {V K p q : Nat} (hV : V ≤ 8) (hp : p < V) (hq : q < V) (h56 : MB V K ≤ 56) (c : Nat → Int32) (D E : Int64) : (∀ j, j < MB V K → (rF (exF V K p q) (MB V K) 0 (c, D, E)).1 j = c (sig V K p q j) ∧ tb (rF (exF V K p q) (MB V K) 0 (c, D, E)).2.1 j = tb D (sig V K p q j) ∧ tb (rF (exF V K p q) (MB V K) 0 (c, D, E)).2.2 j = tb E (sig V K p q j)) ∧ ∀ j, MB V K ≤ j → (rF (exF V K p q) (MB V K) 0 (c, D, E)).1 j = c j ∧ tb (rF (exF V K p q) (MB V K) 0 (c, D, E)).2.1 j = tb D j ∧ tb (rF (exF V K p q) (MB V K) 0 (c, D, E)).2.2 j = tb E j := by
  have key := rF_inv (exF V K p q) (fun i s => i ≤ MB V K → (∀ j, j < MB V K → s.1 j = (if j < i ∨ sig V K p q j < i then c (sig V K p q j) else c j) ∧ tb s.2.1 j = (if j < i ∨ sig V K p q j < i then tb D (sig V K p q j) else tb D j) ∧ tb s.2.2 j = (if j < i ∨ sig V K p q j < i then tb E (sig V K p q j) else tb E j)) ∧ ∀ j, MB V K ≤ j → s.1 j = c j ∧ tb s.2.1 j = tb D j ∧ tb s.2.2 j = tb E j) (MB V K) 0 (c, D, E) (fun _ => ⟨fun j hj => by
      have h : ¬ (j < 0 ∨ sig V K p q j < 0) := by omega
      rw [if_neg h, if_neg h, if_neg h]
      exact ⟨rfl, rfl, rfl⟩, fun j hj => ⟨rfl, rfl, rfl⟩⟩) (fun i s h1 h2 hI hi => by
    obtain ⟨i1, i2⟩ := hI (by omega)
    have him : i < MB V K := by omega
    obtain ⟨a1, a2, a3, a4, a5⟩ := sig_ok hV hp hq him
    unfold exF
    by_cases hs : sig V K p q i ≤ i
    · rw [if_pos hs]
      refine ⟨fun j hj => ?_, i2⟩
      obtain ⟨b1, b2, b3, b4, b5⟩ := sig_ok hV hp hq hj
      rw [(i1 j hj).1, (i1 j hj).2.1, (i1 j hj).2.2]
      by_cases hj1 : j < i ∨ sig V K p q j < i
      · have hj2 : j < i + 1 ∨ sig V K p q j < i + 1 := by omega
        rw [if_pos hj1, if_pos hj1, if_pos hj1, if_pos hj2, if_pos hj2, if_pos hj2]
        exact ⟨rfl, rfl, rfl⟩
      · by_cases hj2 : j < i + 1 ∨ sig V K p q j < i + 1
        · have hji : sig V K p q j = j := by
            have h3 : j = i ∨ sig V K p q j = i := by omega
            rcases h3 with h3 | h3
            · subst h3
              omega
            · rw [h3] at b5
              omega
          rw [if_neg hj1, if_neg hj1, if_neg hj1, if_pos hj2, if_pos hj2, if_pos hj2, hji]
          exact ⟨rfl, rfl, rfl⟩
        · rw [if_neg hj1, if_neg hj1, if_neg hj1, if_neg hj2, if_neg hj2, if_neg hj2]
          exact ⟨rfl, rfl, rfl⟩
    · rw [if_neg hs]
      have o1 := i1 i him
      have o2 := i1 _ a3
      have n1 : ¬ (i < i ∨ sig V K p q i < i) := by omega
      have n2 : ¬ (sig V K p q i < i ∨ sig V K p q (sig V K p q i) < i) := by rw [a5]; omega
      rw [if_neg n1, if_neg n1, if_neg n1] at o1
      rw [if_neg n2, if_neg n2, if_neg n2] at o2
      have g1 : i < 64 := by omega
      have g2 : sig V K p q i < 64 := by omega
      refine ⟨fun j hj => ?_, fun j hj => ?_⟩
      · obtain ⟨b1, b2, b3, b4, b5⟩ := sig_ok hV hp hq hj
        simp only [tb_wpe g1 g2]
        by_cases hj1 : j = i
        · subst hj1
          have n3 : j < j + 1 ∨ sig V K p q j < j + 1 := by omega
          rw [if_pos rfl, if_pos rfl, if_pos n3, if_pos n3, if_pos n3, up_n (by omega), up_s]
          exact o2
        · by_cases hj2 : j = sig V K p q i
          · rw [if_neg hj1, if_neg hj1, if_pos hj2, if_pos hj2, hj2, up_s, a5]
            have n3 : sig V K p q i < i + 1 ∨ i < i + 1 := by omega
            rw [if_pos n3, if_pos n3, if_pos n3]
            exact o1
          · have hj3 : sig V K p q j ≠ i := fun h => hj2 (by rw [← h, b5])
            rw [if_neg hj1, if_neg hj1, if_neg hj2, if_neg hj2, up_n hj2, up_n hj1]
            have e : (j < i + 1 ∨ sig V K p q j < i + 1) ↔ (j < i ∨ sig V K p q j < i) := by omega
            simp only [e]
            exact i1 j hj
      · have hj1 : j ≠ i := by omega
        have hj2 : j ≠ sig V K p q i := by omega
        simp only [tb_wpe g1 g2]
        rw [if_neg hj1, if_neg hj1, if_neg hj2, if_neg hj2, up_n hj2, up_n hj1]
        exact i2 j hj)
  rw [Nat.zero_add] at key
  obtain ⟨k1, k2⟩ := key (Nat.le_refl _)
  refine ⟨fun j hj => ?_, k2⟩
  have h := k1 j hj
  have h3 : j < MB V K ∨ sig V K p q j < MB V K := Or.inl hj
  rw [if_pos h3, if_pos h3, if_pos h3] at h
  exact h

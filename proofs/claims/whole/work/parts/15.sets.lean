/-! SETS AND BLOCKS, as numbers -/
def bcI (x : Int32) : Int32 := rLet (x - ((jushr x 1) &&& 1431655765)) fun v1 => rLet ((v1 &&& 858993459) + ((jushr v1 2) &&& 858993459)) fun v2 => rLet ((v2 + (jushr v2 4)) &&& 252645135) fun v3 => rLet (v3 + (jushr v3 8)) fun v4 => rLet (v4 + (jushr v4 16)) fun v5 => v5 &&& 63
def pc (n : Nat) : Nat := n % 2 + n / 2 % 2 + n / 4 % 2 + n / 8 % 2 + n / 16 % 2 + n / 32 % 2 + n / 64 % 2 + n / 128 % 2
theorem bc_eq (x : Int32) (w : rW) : J_J6_bitCount_0f7a4 x w = some (bcI x) := rfl
theorem bc_n : ∀ n, n < 256 → bcI (nI n) = nI (pc n) := by decide +kernel
theorem pc_le (n : Nat) : pc n ≤ 8 := by unfold pc; omega
theorem gD_l {α : Type} {l m : List α} {b : Nat} (d : α) (h : b < l.length) : (l ++ m).getD b d = l.getD b d := by
  rw [List.getD_eq_getElem?_getD, List.getD_eq_getElem?_getD, List.getElem?_append_left h]
theorem gD_r {α : Type} {l : List α} {b : Nat} (x d : α) (h : b = l.length) : (l ++ [x]).getD b d = x := by
  subst h
  rw [List.getD_eq_getElem?_getD, List.getElem?_append_right (Nat.le_refl _), Nat.sub_self]
  rfl
def pr (v k s : Nat) : Bool := decide (s < 2 ^ v) && decide (pc s = k)
def cnt (v k : Nat) : Nat → Nat
  | 0 => 0
  | s + 1 => if pr v k s = true then cnt v k s + 1 else cnt v k s
def BLs (v k : Nat) : Nat → List Nat
  | 0 => []
  | s + 1 => if pr v k s = true then BLs v k s ++ [s] else BLs v k s
theorem BLs_len (v k s : Nat) : (BLs v k s).length = cnt v k s := by
  induction s with
  | zero => rfl
  | succ s ih =>
    unfold BLs cnt
    split
    · rw [List.length_append, ih]; rfl
    · exact ih
theorem cnt_mono (v k : Nat) : ∀ m s, cnt v k s ≤ cnt v k (s + m) := by
  intro m
  induction m with
  | zero => intro s; exact Nat.le_refl _
  | succ m ih =>
    intro s
    refine Nat.le_trans (ih s) ?_
    show cnt v k (s + m) ≤ cnt v k (s + m + 1)
    rw [cnt]
    split <;> omega
theorem BLs_pre (v k : Nat) : ∀ m s b, b < cnt v k s → (BLs v k (s + m)).getD b 0 = (BLs v k s).getD b 0 := by
  intro m
  induction m with
  | zero => intro s b _; rfl
  | succ m ih =>
    intro s b hb
    have h1 := cnt_mono v k m s
    show (BLs v k (s + m + 1)).getD b 0 = _
    rw [BLs]
    split
    · rw [gD_l 0 (by rw [BLs_len]; omega)]
      exact ih s b hb
    · exact ih s b hb
/-- the block of number b; how many; the number of a set -/
def BT (v k b : Nat) : Nat := (BLs v k 256).getD b 0
def MB (v k : Nat) : Nat := cnt v k 256
def nb (v k s : Nat) : Int32 := if pr v k s = true then nI (cnt v k s) else -5
theorem BT_at {v k s : Nat} (hs : s < 256) (h : pr v k s = true) : BT v k (cnt v k s) = s := by
  have h1 : cnt v k (s + 1) = cnt v k s + 1 := by rw [cnt, if_pos h]
  have h2 := BLs_pre v k (256 - (s + 1)) (s + 1) (cnt v k s) (by omega)
  rw [show s + 1 + (256 - (s + 1)) = 256 by omega] at h2
  unfold BT
  rw [h2, BLs, if_pos h]
  exact gD_r s 0 (by rw [BLs_len])
theorem BLs_mem (v k : Nat) : ∀ s b, b < cnt v k s → pr v k ((BLs v k s).getD b 0) = true ∧ (BLs v k s).getD b 0 < s ∧ cnt v k ((BLs v k s).getD b 0) = b := by
  intro s
  induction s with
  | zero => intro b h; exact absurd h (Nat.not_lt_zero b)
  | succ s ih =>
    intro b h
    rw [cnt] at h
    rw [BLs]
    split
    · rename_i hp
      rw [if_pos hp] at h
      by_cases hb : b < cnt v k s
      · rw [gD_l 0 (by rw [BLs_len]; omega)]
        obtain ⟨a, c, d⟩ := ih b hb
        exact ⟨a, by omega, d⟩
      · have hb : b = cnt v k s := by omega
        subst hb
        rw [gD_r s 0 (by rw [BLs_len])]
        exact ⟨hp, by show s < s + 1; omega, rfl⟩
    · rename_i hp
      rw [if_neg hp] at h
      obtain ⟨a, c, d⟩ := ih b h
      exact ⟨a, by omega, d⟩
theorem BT_in {v k b : Nat} (h : b < MB v k) : pr v k (BT v k b) = true ∧ BT v k b < 256 ∧ cnt v k (BT v k b) = b := BLs_mem v k 256 b h
theorem MB_le : ∀ v, v < 9 → ∀ k, k < 4 → MB v k ≤ 56 := by decide +kernel
theorem cnt_le {v k s : Nat} (hv : v < 9) (hk : k < 4) (hs : s ≤ 256) : cnt v k s ≤ 56 := by
  have h1 := cnt_mono v k (256 - s) s
  rw [show s + (256 - s) = 256 by omega] at h1
  exact Nat.le_trans h1 (MB_le v hv k hk)
theorem MB_ge : ∀ v, v < 9 → ∀ k, k < 4 → 4 ≤ v → 2 ≤ k → 4 ≤ MB v k := by decide +kernel
theorem cnt_lt {v k s : Nat} (hs : s < 256) (h : pr v k s = true) : cnt v k s < MB v k := by
  have h1 : cnt v k (s + 1) = cnt v k s + 1 := by rw [cnt, if_pos h]
  have h2 := cnt_mono v k (256 - (s + 1)) (s + 1)
  rw [show s + 1 + (256 - (s + 1)) = 256 by omega] at h2
  unfold MB
  omega
theorem pr_lt {v k s : Nat} (h : pr v k s = true) : s < 2 ^ v ∧ pc s = k := by
  unfold pr at h
  simp only [Bool.and_eq_true, decide_eq_true_eq] at h
  exact h
theorem nb_BT {v k b : Nat} (h : b < MB v k) : nb v k (BT v k b) = nI b := by
  obtain ⟨h1, h2, h3⟩ := BT_in h
  unfold nb
  rw [if_pos h1, h3]
/-- sizes that may be -/
def Ok3 (v k t : Nat) : Prop := 4 ≤ v ∧ v ≤ 8 ∧ 2 ≤ k ∧ k ≤ 3 ∧ 1 ≤ t ∧ t < k
theorem p2_le {v : Nat} (h : v ≤ 8) : 2 ^ v ≤ 256 := by
  have : v = 0 ∨ v = 1 ∨ v = 2 ∨ v = 3 ∨ v = 4 ∨ v = 5 ∨ v = 6 ∨ v = 7 ∨ v = 8 := by omega
  rcases this with h | h | h | h | h | h | h | h | h <;> subst h <;> decide
/-- what the rows of blocks and of numbers hold -/
def IsB (v k : Nat) (B N : Nat → Int32) : Prop := (∀ b, b < MB v k → B b = nI (BT v k b)) ∧ ∀ s, s < 256 → N s = nb v k s
/-- .. when the sets before s have been looked at -/
def IsBp (v k s : Nat) (B N : Nat → Int32) : Prop := (∀ b, b < cnt v k s → B b = nI (BT v k b)) ∧ ∀ q, q < s → N q = nb v k q
theorem IsBp_in {v k s : Nat} {B N : Nat → Int32} (hs : s < 256) (hp : pr v k s = true) (h : IsBp v k s B N) : IsBp v k (s + 1) (upd B (cnt v k s) (nI s)) (upd (upd N s (-5)) s (nI (cnt v k s))) := by
  refine ⟨fun b hb => ?_, fun q hq => ?_⟩
  · rw [cnt, if_pos hp] at hb
    by_cases hb2 : b = cnt v k s
    · subst hb2
      rw [up_s, BT_at hs hp]
    · rw [up_n hb2]
      exact h.1 b (by omega)
  · by_cases hq2 : q = s
    · subst hq2
      rw [up_s, nb, if_pos hp]
    · rw [up_n hq2, up_n hq2]
      exact h.2 q (by omega)
theorem IsBp_out {v k s : Nat} {B N : Nat → Int32} (hp : ¬ pr v k s = true) (h : IsBp v k s B N) : IsBp v k (s + 1) B (upd N s (-5)) := by
  refine ⟨fun b hb => ?_, fun q hq => ?_⟩
  · rw [cnt, if_neg hp] at hb
    exact h.1 b hb
  · by_cases hq2 : q = s
    · subst hq2
      rw [up_s, nb, if_neg hp]
    · rw [up_n hq2]
      exact h.2 q (by omega)

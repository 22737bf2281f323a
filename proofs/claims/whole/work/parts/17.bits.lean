/-! BITS of longs -/
def tb (x : Int64) (i : Nat) : Bool := x.toBitVec.getLsbD i
def bj (b : Bool) : Int64 := if b then 1 else 0
theorem tb_ext {x y : Int64} (h : ∀ i, i < 64 → tb x i = tb y i) : x = y := Int64.toBitVec_inj.mp (BitVec.eq_of_getLsbD_eq (fun i hi => h i hi))
theorem tb_xor (x y : Int64) (i : Nat) : tb (x ^^^ y) i = (tb x i ^^ tb y i) := by unfold tb; rw [Int64.toBitVec_xor, BitVec.getLsbD_xor]
theorem tb_or (x y : Int64) (i : Nat) : tb (x ||| y) i = (tb x i || tb y i) := by unfold tb; rw [Int64.toBitVec_or, BitVec.getLsbD_or]
theorem tb_and (x y : Int64) (i : Nat) : tb (x &&& y) i = (tb x i && tb y i) := by unfold tb; rw [Int64.toBitVec_and, BitVec.getLsbD_and]
theorem tb_0 (i : Nat) : tb 0 i = false := BitVec.getLsbD_zero
theorem tb_big {x : Int64} {i : Nat} (h : 64 ≤ i) : tb x i = false := BitVec.getLsbD_of_ge _ _ h
theorem sh_l : ∀ n, n < 64 → ((Int32.toInt64 (nI n) &&& 63).toBitVec.smod 64).toNat = n := by decide +kernel
theorem tb_shl1 {k : Nat} (hk : k < 64) (i : Nat) : tb (1 <<< (Int32.toInt64 (nI k) &&& 63)) i = decide (i = k) := by
  unfold tb
  rw [Int64.toBitVec_shiftLeft]
  show ((1 : BitVec 64) <<< ((Int32.toInt64 (nI k) &&& 63).toBitVec.smod 64).toNat).getLsbD i = _
  rw [sh_l k hk]
  rcases Nat.lt_or_ge i 64 with h | h
  · rw [BitVec.getLsbD_shiftLeft]
    rcases Nat.lt_trichotomy i k with q | q | q
    · simp [q, Nat.ne_of_lt q]
    · subst q; simp [h]
    · have h1 : i - k ≠ 0 := by omega
      have h2 : ¬ i < k := by omega
      have h3 : i ≠ k := by omega
      simp [h, h2, h3, h1]
  · rw [BitVec.getLsbD_of_ge _ _ h, eq_comm, decide_eq_false_iff_not]
    omega
theorem tb_shr {k : Nat} (hk : k < 64) (x : Int64) : tb (x >>> (Int32.toInt64 (nI k) &&& 63)) 0 = tb x k := by
  unfold tb
  rw [Int64.toBitVec_shiftRight]
  show (x.toBitVec.sshiftRight ((Int32.toInt64 (nI k) &&& 63).toBitVec.smod 64).toNat).getLsbD 0 = _
  rw [sh_l k hk, BitVec.getLsbD_sshiftRight]
  simp [hk]
theorem tb_one (x : Int64) : (x &&& 1) = bj (tb x 0) := by
  apply tb_ext
  intro i hi
  rw [tb_and]
  have h1 : tb 1 i = decide (i = 0) := (by decide +kernel : ∀ i, i < 64 → tb 1 i = decide (i = 0)) i hi
  rw [h1]
  by_cases h : i = 0
  · subst h
    cases tb x 0 <;> rfl
  · have h3 : ∀ b : Bool, tb (bj b) i = false := by
      intro b
      cases b
      · exact tb_0 i
      · show tb 1 i = false
        rw [h1]
        simp [h]
    rw [h3]
    simp [h]
theorem lg_eq0 (x y : Int64) : (lg_cmp x y = 0) ↔ x = y := by
  unfold lg_cmp
  by_cases h1 : x > y
  · rw [if_pos h1]
    refine ⟨fun h => absurd h (by decide), fun h => ?_⟩
    subst h
    exact absurd h1 Int64.lt_irrefl
  · rw [if_neg h1]
    by_cases h2 : x = y
    · simp [h2]
    · rw [if_neg h2]
      exact ⟨fun h => absurd h (by decide), fun h => absurd h h2⟩
theorem isIn_eq {k : Nat} (hk : k < 64) (x : Int64) (w : rW) : J_X9_isIn x (nI k) w = some (tb x k) := by
  unfold J_X9_isIn
  rw [tb_one, tb_shr hk]
  cases tb x k <;> rfl
/-- x with bit k turned over -/
def tog (x : Int64) (k : Nat) : Int64 := x ^^^ (1 <<< (Int32.toInt64 (nI k) &&& 63))
theorem tb_tog {k : Nat} (hk : k < 64) (x : Int64) (i : Nat) : tb (tog x k) i = if i = k then !tb x i else tb x i := by
  unfold tog
  rw [tb_xor, tb_shl1 hk]
  by_cases h : i = k <;> simp [h]
/-! how many bits -/
def sB (n : Nat) : Nat → Nat
  | 0 => 0
  | m + 1 => sB n m + n / 2 ^ m % 2
def cntB (f : Nat → Bool) : Nat → Nat
  | 0 => 0
  | m + 1 => cntB f m + (if f m = true then 1 else 0)
theorem cntB_congr {f g : Nat → Bool} : ∀ m, (∀ i, i < m → f i = g i) → cntB f m = cntB g m := by
  intro m
  induction m with
  | zero => intro _; rfl
  | succ m ih =>
    intro h
    rw [cntB, cntB, ih (fun i hi => h i (by omega)), h m (by omega)]
theorem cntB_le (f : Nat → Bool) : ∀ m, cntB f m ≤ m := by
  intro m
  induction m with
  | zero => exact Nat.le_refl _
  | succ m ih => rw [cntB]; split <;> omega
theorem cntB_more {f : Nat → Bool} {n : Nat} (h : ∀ i, n ≤ i → f i = false) : ∀ m, cntB f (n + m) = cntB f n := by
  intro m
  induction m with
  | zero => rfl
  | succ m ih =>
    show cntB f (n + m + 1) = _
    rw [cntB, ih, h (n + m) (by omega)]
    rfl
theorem sB_split (n : Nat) : ∀ m, sB n (8 + m) = sB n 8 + sB (n / 256) m := by
  intro m
  induction m with
  | zero => rfl
  | succ m ih =>
    show sB n (8 + m) + n / 2 ^ (8 + m) % 2 = sB n 8 + (sB (n / 256) m + n / 256 / 2 ^ m % 2)
    rw [ih, Nat.pow_add, ← Nat.div_div_eq_div_mul]
    show _ + n / 256 / 2 ^ m % 2 = _
    omega
theorem sB_8 (n : Nat) : sB n 8 = pc n := by
  simp only [sB, pc, Nat.pow_zero, Nat.div_one, Nat.pow_succ, Nat.one_mul, Nat.reduceMul]
  omega
theorem tb_nat {n : Nat} (i : Nat) : tb (lN n) i = true ↔ n % 2 ^ 64 / 2 ^ i % 2 = 1 := by
  unfold tb
  have h1 : (lN n).toBitVec = BitVec.ofNat 64 n := rfl
  rw [h1, BitVec.getLsbD, BitVec.toNat_ofNat, Nat.testBit_eq_decide_div_mod_eq, decide_eq_true_eq]
theorem cntB_nat {n : Nat} (hn : n < 2 ^ 64) : ∀ m, cntB (tb (lN n)) m = sB n m := by
  intro m
  induction m with
  | zero => rfl
  | succ m ih =>
    rw [cntB, sB, ih]
    have h1 := tb_nat (n := n) m
    rw [Nat.mod_eq_of_lt hn] at h1
    have h2 : n / 2 ^ m % 2 = 0 ∨ n / 2 ^ m % 2 = 1 := by omega
    rcases h2 with h2 | h2
    · have h3 : ¬ tb (lN n) m = true := fun h => by rw [h1, h2] at h; cases h
      rw [if_neg h3, h2]
    · rw [if_pos (h1.mpr h2), h2]
/-- a mask: c in each of m bytes -/
def mk8 (c : Nat) : Nat → Nat
  | 0 => 0
  | m + 1 => c + 256 * mk8 c m
theorem and8 {a b c d : Nat} (ha : a < 256) (hc : c < 256) : (a + 256 * b) &&& (c + 256 * d) = (a &&& c) + 256 * (b &&& d) := by
  have h1 : ((a + 256 * b) &&& (c + 256 * d)) % 2 ^ 8 = a &&& c := by
    rw [Nat.and_mod_two_pow]
    congr 1 <;> omega
  have h2 : ((a + 256 * b) &&& (c + 256 * d)) / 2 ^ 8 = b &&& d := by
    rw [Nat.and_div_two_pow]
    congr 1 <;> omega
  have h3 := Nat.mod_add_div ((a + 256 * b) &&& (c + 256 * d)) (2 ^ 8)
  rw [h1, h2] at h3
  omega
def b1 (l : Nat) : Nat := l - (l / 2 &&& 85)
def b2 (l : Nat) : Nat := (b1 l &&& 51) + (b1 l / 4 &&& 51)
def b3 (l : Nat) : Nat := (b2 l + b2 l / 16) &&& 15
def v1 (m x : Nat) : Nat := x - (x / 2 &&& mk8 85 m)
def v2 (m x : Nat) : Nat := (v1 m x &&& mk8 51 m) + (v1 m x / 4 &&& mk8 51 m)
def v3 (m x : Nat) : Nat := (v2 m x + v2 m x / 16) &&& mk8 15 m
theorem c1 : ∀ l, l < 256 → ∀ h, h < 2 → (l / 2 + 128 * h) &&& 85 = l / 2 &&& 85 := by decide +kernel
theorem c2 : ∀ l, l < 256 → ∀ h, h < 4 → (l / 4 + 64 * h) &&& 51 = l / 4 &&& 51 := by decide +kernel
theorem c3 : ∀ l, l < 256 → ∀ h, h < 5 → (b2 l + b2 l / 16 + 16 * h) &&& 15 = b3 l := by decide +kernel
theorem c4 : ∀ l, l < 256 → b2 l % 16 ≤ 4 ∧ b2 l < 70 ∧ b3 l = pc l := by decide +kernel
theorem v1_s {lo hi m : Nat} (hlo : lo < 256) : v1 (m + 1) (lo + 256 * hi) = b1 lo + 256 * v1 m hi := by
  unfold v1 b1
  rw [show mk8 85 (m + 1) = 85 + 256 * mk8 85 m from rfl]
  have e1 : (lo + 256 * hi) / 2 = (lo / 2 + 128 * (hi % 2)) + 256 * (hi / 2) := by omega
  rw [e1, and8 (by omega) (by decide), c1 lo hlo _ (by omega)]
  have h1 : lo / 2 &&& 85 ≤ lo / 2 := Nat.and_le_left
  have h2 : hi / 2 &&& mk8 85 m ≤ hi / 2 := Nat.and_le_left
  omega
theorem b1_le (l : Nat) : b1 l ≤ l := Nat.sub_le _ _
theorem v2_s {lo hi m : Nat} (hlo : lo < 256) : v2 (m + 1) (lo + 256 * hi) = b2 lo + 256 * v2 m hi := by
  unfold v2 b2
  rw [v1_s hlo]
  have h0 := b1_le lo
  have e1 : (b1 lo + 256 * v1 m hi) / 4 = (b1 lo / 4 + 64 * (v1 m hi % 4)) + 256 * (v1 m hi / 4) := by omega
  rw [e1]
  show ((_ + 256 * _) &&& (51 + 256 * mk8 51 m)) + ((_ + 256 * _) &&& (51 + 256 * mk8 51 m)) = _
  rw [and8 (by omega) (by decide), and8 (by omega) (by decide), c2 (b1 lo) (by omega) _ (by omega)]
  omega
theorem v2_lo : ∀ (m x : Nat), v2 m x % 16 ≤ 4 := by
  intro m x
  cases m with
  | zero =>
    unfold v2 mk8
    rw [Nat.and_zero, Nat.and_zero]
    decide
  | succ m =>
    have e : x = x % 256 + 256 * (x / 256) := by omega
    rw [e, v2_s (by omega)]
    have := (c4 (x % 256) (by omega)).1
    omega
theorem v3_s {lo hi m : Nat} (hlo : lo < 256) : v3 (m + 1) (lo + 256 * hi) = b3 lo + 256 * v3 m hi := by
  unfold v3
  rw [v2_s hlo]
  have h1 := v2_lo m hi
  have h2 := c4 lo hlo
  have e1 : b2 lo + 256 * v2 m hi + (b2 lo + 256 * v2 m hi) / 16 = (b2 lo + b2 lo / 16 + 16 * (v2 m hi % 16)) + 256 * (v2 m hi + v2 m hi / 16) := by omega
  rw [e1]
  show (_ + 256 * _) &&& (15 + 256 * mk8 15 m) = _
  rw [and8 (by omega) (by decide), c3 lo hlo _ (by omega)]
/-- the sum of m digits of base 256 -/
def dS : Nat → Nat → Nat
  | 0, _ => 0
  | m + 1, y => y % 256 + dS m (y / 256)
theorem pc_mod (x : Nat) : pc (x % 256) = pc x := by unfold pc; omega
theorem dS_v3 : ∀ (m x : Nat), dS m (v3 m x) = sB x (8 * m) := by
  intro m
  induction m with
  | zero => intro x; rfl
  | succ m ih =>
    intro x
    have e : x = x % 256 + 256 * (x / 256) := by omega
    have h1 : v3 (m + 1) x = b3 (x % 256) + 256 * v3 m (x / 256) := by
      have := v3_s (m := m) (hi := x / 256) (show x % 256 < 256 by omega)
      rw [← e] at this
      exact this
    have h2 := (c4 (x % 256) (by omega)).2.2
    have h3 := pc_le (x % 256)
    rw [h1, dS]
    have e2 : (b3 (x % 256) + 256 * v3 m (x / 256)) % 256 = b3 (x % 256) := by omega
    have e3 : (b3 (x % 256) + 256 * v3 m (x / 256)) / 256 = v3 m (x / 256) := by omega
    rw [e2, e3, ih, h2, pc_mod, show 8 * (m + 1) = 8 + 8 * m by omega, sB_split, sB_8]
theorem v3_dig : ∀ (m x : Nat), v3 (m + 1) x % 256 ≤ 8 ∧ v3 (m + 1) x / 256 = v3 m (x / 256) := by
  intro m x
  have e : x = x % 256 + 256 * (x / 256) := by omega
  have h1 : v3 (m + 1) x = b3 (x % 256) + 256 * v3 m (x / 256) := by
    have := v3_s (m := m) (hi := x / 256) (show x % 256 < 256 by omega)
    rw [← e] at this
    exact this
  have h2 := (c4 (x % 256) (by omega)).2.2
  have h3 := pc_le (x % 256)
  rw [h1]
  omega
theorem v3_0 (x : Nat) : v3 0 x = 0 := by unfold v3 mk8; exact Nat.and_zero _
theorem st_1 {y d y1 e y2 : Nat} (h : y = d + 256 * y1) (h1 : y1 = e + 256 * y2) : y + y1 = (d + e) + 256 * (y1 + y2) := by omega
theorem st_2 {y d y1 e y2 f y3 : Nat} (h : y = d + 256 * y1) (h1 : y2 = f + 256 * y3) : y + y2 = (d + f) + 256 * (y1 + y3) := by omega
theorem st_4 {y d y1 f y4 y5 : Nat} (h : y = d + 256 * y1) (h1 : y4 = f + 256 * y5) : y + y4 = (d + f) + 256 * (y1 + y5) := by omega
theorem dv_1 {y d y1 : Nat} (h : y = d + 256 * y1) (hd : d < 256) : y / 256 = y1 := by omega
theorem dv_2 {y d y1 e y2 : Nat} (h : y = d + 256 * y1) (h1 : y1 = e + 256 * y2) (hd : d < 256) (he : e < 256) : y / 65536 = y2 := by omega
theorem dv_4 {y d y1 e y2 f y3 g y4 : Nat} (h : y = d + 256 * y1) (h1 : y1 = e + 256 * y2) (h2 : y2 = f + 256 * y3) (h3 : y3 = g + 256 * y4) (hd : d < 256) (he : e < 256) (hf : f < 256) (hg : g < 256) : y / 4294967296 = y4 := by omega
theorem fold8 {y d0 d1 d2 d3 d4 d5 d6 d7 y1 y2 y3 y4 y5 y6 y7 : Nat} (h0 : d0 ≤ 8) (h1 : d1 ≤ 8) (h2 : d2 ≤ 8) (h3 : d3 ≤ 8) (h4 : d4 ≤ 8) (h5 : d5 ≤ 8) (h6 : d6 ≤ 8) (h7 : d7 ≤ 8) (e0 : y = d0 + 256 * y1) (e1 : y1 = d1 + 256 * y2) (e2 : y2 = d2 + 256 * y3) (e3 : y3 = d3 + 256 * y4) (e4 : y4 = d4 + 256 * y5) (e5 : y5 = d5 + 256 * y6) (e6 : y6 = d6 + 256 * y7) (e7 : y7 = d7 + 256 * 0) : ((y + y / 256 + (y + y / 256) / 65536) + (y + y / 256 + (y + y / 256) / 65536) / 4294967296) % 128 = d0 + d1 + d2 + d3 + d4 + d5 + d6 + d7 := by
  rw [dv_1 e0 (by omega)]
  have z0 := st_1 e0 e1
  have z1 := st_1 e1 e2
  have z2 := st_1 e2 e3
  have z3 := st_1 e3 e4
  have z4 := st_1 e4 e5
  have z5 := st_1 e5 e6
  have z6 := st_1 e6 e7
  clear e0 e1 e2 e3 e4 e5 e6
  generalize hy : y + y1 = a0 at z0 ⊢
  generalize y1 + y2 = a1 at z0 z1
  generalize y2 + y3 = a2 at z1 z2
  generalize y3 + y4 = a3 at z2 z3
  generalize y4 + y5 = a4 at z3 z4
  generalize y5 + y6 = a5 at z4 z5
  generalize y6 + y7 = a6 at z5 z6
  have z7 : y7 + 0 = d7 + 256 * 0 := e7
  clear e7
  generalize y7 + 0 = a7 at z6 z7
  clear hy
  rw [dv_2 z0 z1 (by omega) (by omega)]
  have u0 := st_4 z0 z2
  have u1 := st_4 z1 z3
  have u2 := st_4 z2 z4
  have u3 := st_4 z3 z5
  have u4 := st_4 z4 z6
  have u5 := st_4 z5 z7
  clear z0 z1 z2 z3 z4 z5
  generalize a0 + a2 = c0 at u0 ⊢
  generalize a1 + a3 = c1 at u0 u1
  generalize a2 + a4 = c2 at u1 u2
  generalize a3 + a5 = c3 at u2 u3
  generalize a4 + a6 = c4 at u3 u4
  generalize a5 + a7 = c5 at u4 u5
  rw [dv_4 u0 u1 u2 u3 (by omega) (by omega) (by omega) (by omega)]
  have w0 := st_4 u0 u4
  clear u0 u1 u2 u3 u4 u5 z6 z7
  generalize c0 + c4 = q0 at w0 ⊢
  generalize c1 + c5 = q1 at w0
  omega
theorem an_l {a b : Nat} (ha : a < 2 ^ 64) (hb : b < 2 ^ 64) : lN a &&& lN b = lN (a &&& b) := by
  apply Int64.toBitVec_inj.mp
  rw [Int64.toBitVec_and]
  show BitVec.ofNat 64 a &&& BitVec.ofNat 64 b = BitVec.ofNat 64 (a &&& b)
  apply BitVec.eq_of_toNat_eq
  rw [BitVec.toNat_and, BitVec.toNat_ofNat, BitVec.toNat_ofNat, BitVec.toNat_ofNat, Nat.mod_eq_of_lt ha, Nat.mod_eq_of_lt hb, Nat.mod_eq_of_lt (Nat.and_lt_two_pow _ hb)]
theorem sh_n : ∀ k, k < 64 → ((Int32.toInt64 (nI k)).toUInt64 &&& Int64.toUInt64 63) = UInt64.ofNat k := by decide +kernel
theorem sh_u {n k : Nat} (hn : n < 2 ^ 64) (hk : k < 64) : jlushr (lN n) (nI k) = lN (n / 2 ^ k) := by
  unfold jlushr
  rw [sh_n k hk]
  apply Int64.toBitVec_inj.mp
  apply BitVec.eq_of_toNat_eq
  show ((lN n).toUInt64 >>> UInt64.ofNat k).toNat = (BitVec.ofNat 64 (n / 2 ^ k)).toNat
  have h1 : (UInt64.ofNat k).toNat = k := by
    show (BitVec.ofNat 64 k).toNat = k
    rw [BitVec.toNat_ofNat, Nat.mod_eq_of_lt (by omega)]
  have h2 : (lN n).toUInt64.toNat = n := by
    show (BitVec.ofNat 64 n).toNat = n
    rw [BitVec.toNat_ofNat, Nat.mod_eq_of_lt hn]
  rw [UInt64.toNat_shiftRight, h1, h2, Nat.mod_eq_of_lt hk, Nat.shiftRight_eq_div_pow, BitVec.toNat_ofNat, Nat.mod_eq_of_lt (Nat.lt_of_le_of_lt (Nat.div_le_self _ _) hn)]
theorem pk_andM2 (n : Nat) : nI n &&& 127 = nI (n % 128) := by
  rw [pk_and (nI n) (m := 127) 7 (by decide)]
  have h1 : (nI n).toBitVec.toNat = n % 2 ^ 32 := by
    show (BitVec.ofNat 32 n).toNat = _
    rw [BitVec.toNat_ofNat]
  rw [h1]
  congr 1
  omega
theorem lN_of (x : Int64) : ∃ n, n < 2 ^ 64 ∧ x = lN n := by
  refine ⟨x.toBitVec.toNat, x.toBitVec.isLt, ?_⟩
  apply Int64.toBitVec_inj.mp
  show x.toBitVec = BitVec.ofNat 64 x.toBitVec.toNat
  rw [BitVec.ofNat_toNat, BitVec.setWidth_eq]
theorem j13_lem {n : Nat} (hn : n < 2 ^ 64) (w : rW) : J_J13_bitCount_95d88 (lN n) w = some (nI (sB n 64)) := by
  have s1 : ∀ q : Nat, q < 2 ^ 64 → jlushr (lN q) 1 = lN (q / 2) := fun q hq => sh_u hq (k := 1) (by decide)
  have s2 : ∀ q : Nat, q < 2 ^ 64 → jlushr (lN q) 2 = lN (q / 4) := fun q hq => sh_u hq (k := 2) (by decide)
  have s4 : ∀ q : Nat, q < 2 ^ 64 → jlushr (lN q) 4 = lN (q / 16) := fun q hq => sh_u hq (k := 4) (by decide)
  have s8 : ∀ q : Nat, q < 2 ^ 64 → jlushr (lN q) 8 = lN (q / 256) := fun q hq => sh_u hq (k := 8) (by decide)
  have s16 : ∀ q : Nat, q < 2 ^ 64 → jlushr (lN q) 16 = lN (q / 65536) := fun q hq => sh_u hq (k := 16) (by decide)
  have s32 : ∀ q : Nat, q < 2 ^ 64 → jlushr (lN q) 32 = lN (q / 4294967296) := fun q hq => sh_u hq (k := 32) (by decide)
  have m1 : (6148914691236517205 : Int64) = lN (mk8 85 8) := by decide +kernel
  have m2 : (3689348814741910323 : Int64) = lN (mk8 51 8) := by decide +kernel
  have m4 : (1085102592571150095 : Int64) = lN (mk8 15 8) := by decide +kernel
  have k1 : mk8 85 8 < 2 ^ 64 := by decide +kernel
  have k2 : mk8 51 8 < 2 ^ 62 := by decide +kernel
  have k4 : mk8 15 8 < 2 ^ 60 := by decide +kernel
  unfold J_J13_bitCount_95d88
  simp only [rLet_eq]
  have a1 : n / 2 &&& mk8 85 8 ≤ n / 2 := Nat.and_le_left
  rw [s1 n hn, m1, an_l (by omega) k1, lN_sub (by omega)]
  have e1 : n - (n / 2 &&& mk8 85 8) = v1 8 n := rfl
  rw [e1]
  have b1 : v1 8 n < 2 ^ 64 := by rw [← e1]; omega
  rw [s2 _ b1, m2, an_l b1 (by omega), an_l (by omega) (by omega), lN_add]
  have e2 : (v1 8 n &&& mk8 51 8) + (v1 8 n / 4 &&& mk8 51 8) = v2 8 n := rfl
  have a2 : v1 8 n &&& mk8 51 8 ≤ mk8 51 8 := Nat.and_le_right
  have a3 : v1 8 n / 4 &&& mk8 51 8 ≤ mk8 51 8 := Nat.and_le_right
  have b2 : v2 8 n < 2 ^ 63 := by rw [← e2]; omega
  rw [e2, s4 _ (by omega), m4, lN_add, an_l (by omega) (by omega)]
  have e3 : (v2 8 n + v2 8 n / 16) &&& mk8 15 8 = v3 8 n := rfl
  have a4 : (v2 8 n + v2 8 n / 16) &&& mk8 15 8 ≤ mk8 15 8 := Nat.and_le_right
  have b3 : v3 8 n < 2 ^ 60 := by rw [← e3]; omega
  rw [e3, s8 _ (by omega), lN_add, s16 _ (by omega), lN_add]
  have q1 := v3_dig 7 n
  have q2 := v3_dig 6 (n / 256)
  have q3 := v3_dig 5 (n / 256 / 256)
  have q4 := v3_dig 4 (n / 256 / 256 / 256)
  have q5 := v3_dig 3 (n / 256 / 256 / 256 / 256)
  have q6 := v3_dig 2 (n / 256 / 256 / 256 / 256 / 256)
  have q7 := v3_dig 1 (n / 256 / 256 / 256 / 256 / 256 / 256)
  have q8 := v3_dig 0 (n / 256 / 256 / 256 / 256 / 256 / 256 / 256)
  rw [v3_0] at q8
  have hd := dS_v3 8 n
  simp only [dS, Nat.reduceMul, Nat.reduceAdd] at hd q1 q2 q3 q4 q5 q6 q7 q8
  rw [q1.2, q2.2, q3.2, q4.2, q5.2, q6.2, q7.2] at hd
  have md : ∀ a b : Nat, a / 256 = b → a = a % 256 + 256 * b := fun a b h => by omega
  have hf := fold8 (y := v3 8 n) q1.1 q2.1 q3.1 q4.1 q5.1 q6.1 q7.1 q8.1 (md _ _ q1.2) (md _ _ q2.2) (md _ _ q3.2) (md _ _ q4.2) (md _ _ q5.2) (md _ _ q6.2) (md _ _ q7.2) (md _ _ q8.2)
  clear q1 q2 q3 q4 q5 q6 q7 q8
  rw [s32 _ (by omega), lN_add]
  rw [lN_i]
  rw [pk_andM2, hf]
  congr 2
  omega
/-- Long.bitCount: how many bits are set -/
theorem bitCountJ (x : Int64) (w : rW) : J_J13_bitCount_95d88 x w = some (nI (cntB (tb x) 64)) := by
  obtain ⟨n, hn, rfl⟩ := lN_of x
  rw [j13_lem hn, cntB_nat hn]

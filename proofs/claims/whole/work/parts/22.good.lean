/-! HOW THE CLASS'S CELLS OF S STAND TO THE MODEL'S CELLS OF M -/
/-- the search for partings, told once: cover of x in part p of the first b blocks; may block b join p; ways and the first -/
def cvN (v k : Nat) (a : Nat → Nat) (p x : Nat) : Nat → Nat
  | 0 => 0
  | b + 1 => cvN v k a p x b + (if a b = p ∧ (BT v k b &&& x) = x then 1 else 0)
def dBad (v k t ix : Nat) (a : Nat → Nat) (b p x : Nat) : Bool := decide (pc x = t) && (decide ((BT v k b &&& x) = x) && decide (ix ≤ cvN v k a p x b))
def dOk (v k t ix : Nat) (a : Nat → Nat) (b p : Nat) : Bool := !(rFd (dBad v k t ix a b p) (2 ^ v) 0).isSome
def updN (a : Nat → Nat) (b p : Nat) : Nat → Nat := fun j => if j = b then p else a j
abbrev dAcc : Type := Int32 × (Nat → Int32)
def dLeaf (a : Nat → Nat) (c : dAcc) : dAcc := (c.1 + 1, if c.1 = 0 then (fun j => nI (a j)) else c.2)
def dSr (v k t ix m : Nat) : Nat → Nat → Nat → (Nat → Nat) → dAcc → dAcc
  | 0, _, _, a, c => dLeaf a c
  | r + 1, b, o, a, c => rF (fun p c => if dOk v k t ix a b p = true then dSr v k t ix m r (b + 1) (max o (p + 1)) (updN a b p) c else c) (min (o + 1) m) 0 c
/-- in how many blocks a set of t points lies -/
def dAll (v k t : Nat) : Nat := if t + 1 = k then v - k + 1 else (v - 1) * (v - 2) / 2
def dW (v k t m : Nat) : dAcc := if dAll v k t % m = 0 then dSr v k t (dAll v k t / m) m (MB v k) 0 0 (fun _ => 0) (0, fun _ => 0) else (0, fun _ => 0)
def dLk (v k t : Nat) : Prop := MB v k ≤ (if t + 1 = k then 20 else 10)
def RSz (V K T : Nat) (v k t m : Int32) (B N : Nat → Int32) : Prop := Ok3 V K T ∧ v = nI V ∧ k = nI K ∧ t = nI T ∧ m = nI (MB V K) ∧ IsB V K B N
def RSt (M : Nat) (c : Nat → Int32) (D E : Int64) (c' d' e' : Nat → Int32) : Prop := (∀ b, b < 56 → c' b = c b ∧ d' b = bi (tb D b) ∧ e' b = bi (tb E b) ∧ inB (c b) (-99) 99 = true) ∧ (∀ b, M ≤ b → tb D b = false ∧ tb E b = false ∧ (b < 56 → c b = 0))
def RRw (q : Nat) (P : Int32 → Bool) (m m' : Int32) (f g f' g' : Nat → Int32) : Prop := ∃ n, n ≤ q ∧ m = nI n ∧ m' = nI n ∧ ∀ j, j < n → f' j = f j ∧ g' j = g j ∧ P (f j) = true
def RTx (m m' : Int32) (f f' : Nat → Int32) : Prop := ∃ n, n ≤ 100 ∧ m = nI n ∧ m' = nI n ∧ ∀ j, j < n → f' j = f j
def RTp (s l : Int32) (f : Nat → Int64) (q : Nat) (s' l' : Nat → Int32) (f' : Nat → Int64) : Prop := ∃ n, n ≤ 60 ∧ l = nI n ∧ l' q = nI n ∧ s' q = s ∧ inB s (-1) 4 = true ∧ (s = -1 → n = 0) ∧ ∀ j, j < 60 → f' (60 * q + j) = f j
def anyB (_ : Int32) : Bool := true
def RIm (V K : Nat) (T : Nat) (S M : rSt) : Prop := M.2.2.1 78 0 = nI V ∧ M.2.2.1 78 1 = nI K ∧ M.2.2.1 78 2 = nI T ∧ RSt (MB V K) (S.2.2.1 21) (S.2.1 20 2) (S.2.1 20 3) (fun b => M.2.2.1 78 (46 + b)) (fun b => M.2.2.1 78 (102 + b)) (fun b => M.2.2.1 78 (158 + b)) ∧ RRw 4 anyB (S.1 22 2) (M.2.2.1 78 3) (S.2.2.1 23) (S.2.2.1 24) (fun j => M.2.2.1 78 (6 + j)) (fun j => M.2.2.1 78 (10 + j)) ∧ RRw 8 (fun x => inB x 0 4) (S.1 25 2) (M.2.2.1 78 4) (S.2.2.1 26) (S.2.2.1 27) (fun j => M.2.2.1 78 (14 + j)) (fun j => M.2.2.1 78 (22 + j)) ∧ RRw 8 anyB (S.1 28 2) (M.2.2.1 78 5) (S.2.2.1 29) (S.2.2.1 30) (fun j => M.2.2.1 78 (30 + j)) (fun j => M.2.2.1 78 (38 + j))
def RIg (S M : rSt) : Prop := M.1 60 29 = S.1 0 2 ∧ ∃ V K T, RSz V K T (S.1 17 0) (S.1 17 1) (S.1 17 2) (S.1 17 3) (S.2.2.1 18) (S.2.2.1 19) ∧ (S.1 0 2 = 0 ∨ (S.1 0 2 = 1 ∧ RIm V K T S M))
def RPt (S : rSt) : Prop := S.1 38 1 = 0 ∨ ∃ V K T m, Ok3 V K T ∧ 2 ≤ m ∧ m ≤ 6 ∧ dLk V K T ∧ S.1 38 1 = nI (10 * (100 * V + 10 * K + T) + m) ∧ S.1 38 0 = (dW V K T m).1 ∧ S.1 38 3 = nI (MB V K) ∧ ((dW V K T m).1 ≠ 0 → ∀ b, b < MB V K → S.2.2.1 42 b = (dW V K T m).2 b)
def RTs (S M : rSt) : Prop := RTp (S.1 48 0) (S.1 48 1) (S.2.2.2 49) 0 (M.2.2.1 76) (M.2.2.1 77) (M.2.2.2 75) ∧ RTp (S.1 50 0) (S.1 50 1) (S.2.2.2 51) 1 (M.2.2.1 76) (M.2.2.1 77) (M.2.2.2 75) ∧ RTp (S.1 52 0) (S.1 52 1) (S.2.2.2 53) 2 (M.2.2.1 76) (M.2.2.1 77) (M.2.2.2 75) ∧ RTp (S.1 54 0) (S.1 54 1) (S.2.2.2 55) 3 (M.2.2.1 76) (M.2.2.1 77) (M.2.2.2 75) ∧ RTp (S.1 56 0) (S.1 56 1) (S.2.2.2 57) 4 (M.2.2.1 76) (M.2.2.1 77) (M.2.2.2 75) ∧ RTp (S.1 58 0) (S.1 58 1) (S.2.2.2 59) 5 (M.2.2.1 76) (M.2.2.1 77) (M.2.2.2 75)
def Rsz (V K T : Nat) (S M : rSt) : Prop := RSz V K T (S.1 2 0) (S.1 2 1) (S.1 2 2) (S.1 2 3) (S.2.2.1 3) (S.2.2.1 4) ∧ RSz V K T (M.1 60 0) (M.1 60 1) (M.1 60 2) (M.1 60 3) (M.2.2.1 61) (M.2.2.1 62)
def Rst (V K : Nat) (S M : rSt) : Prop := RSt (MB V K) (S.2.2.1 6) (S.2.1 5 2) (S.2.1 5 3) (M.2.2.1 63) (M.2.2.1 64) (M.2.2.1 65)
def Rse (S M : rSt) : Prop := RRw 4 anyB (S.1 7 2) (M.1 60 11) (S.2.2.1 8) (S.2.2.1 9) (M.2.2.1 66) (M.2.2.1 67)
def Rev (S M : rSt) : Prop := RRw 8 (fun x => inB x 0 4) (S.1 10 2) (M.1 60 14) (S.2.2.1 11) (S.2.2.1 12) (M.2.2.1 68) (M.2.2.1 69)
def Rbo (S M : rSt) : Prop := RRw 8 anyB (S.1 13 2) (M.1 60 17) (S.2.2.1 14) (S.2.2.1 15) (M.2.2.1 70) (M.2.2.1 71)
def Rtx (S M : rSt) : Prop := RTx (S.1 43 1) (M.1 60 19) (S.2.2.1 44) (M.2.2.1 72)
/-- all the rest: what no call of the row or of the design touches -/
def Rre (S M : rSt) : Prop := Rse S M ∧ Rev S M ∧ Rbo S M ∧ RTs S M ∧ RIg S M ∧ RPt S
def R (V K T : Nat) (S M : rSt) : Prop := Rsz V K T S M ∧ Rst V K S M ∧ Rtx S M ∧ Rre S M
/-! frames -/
def mEq0 (S S1 : rSt) : Prop := (∀ k, S1.1 60 k = S.1 60 k) ∧ (∀ a, 61 ≤ a → S1.2.2.1 a = S.2.2.1 a) ∧ S1.2.2.2 75 = S.2.2.2 75
def cEq0 (S S1 : rSt) : Prop := (∀ a k, a ≠ 60 → S1.1 a k = S.1 a k) ∧ S1.2.1 = S.2.1 ∧ (∀ a, a < 61 → S1.2.2.1 a = S.2.2.1 a) ∧ ∀ a, a ≠ 75 → S1.2.2.2 a = S.2.2.2 a
/-- .. and what a set-up's clauses stand in -/
def mEq (S S1 : rSt) : Prop := mEq0 S S1 ∧ S1.1 43 4 = S.1 43 4 ∧ S1.2.2.1 45 = S.2.2.1 45 ∧ S1.2.2.1 46 = S.2.2.1 46
def cEq (S S1 : rSt) : Prop := cEq0 S S1 ∧ S1.1 60 23 = S.1 60 23 ∧ S1.2.2.1 73 = S.2.2.1 73 ∧ S1.2.2.1 74 = S.2.2.1 74
theorem mE_r (S : rSt) : mEq S S := ⟨⟨fun _ => rfl, fun _ _ => rfl, rfl⟩, rfl, rfl, rfl⟩
theorem cE_r (S : rSt) : cEq S S := ⟨⟨fun _ _ _ => rfl, rfl, fun _ _ => rfl, fun _ _ => rfl⟩, rfl, rfl, rfl⟩
theorem mE0_t {S S1 S2 : rSt} (h : mEq0 S S1) (g : mEq0 S1 S2) : mEq0 S S2 := ⟨fun k => (g.1 k).trans (h.1 k), fun a ha => (g.2.1 a ha).trans (h.2.1 a ha), g.2.2.trans h.2.2⟩
theorem cE0_t {S S1 S2 : rSt} (h : cEq0 S S1) (g : cEq0 S1 S2) : cEq0 S S2 := ⟨fun a k ha => (g.1 a k ha).trans (h.1 a k ha), g.2.1.trans h.2.1, fun a ha => (g.2.2.1 a ha).trans (h.2.2.1 a ha), fun a ha => (g.2.2.2 a ha).trans (h.2.2.2 a ha)⟩
theorem mE_t {S S1 S2 : rSt} (h : mEq S S1) (g : mEq S1 S2) : mEq S S2 := ⟨mE0_t h.1 g.1, g.2.1.trans h.2.1, g.2.2.1.trans h.2.2.1, g.2.2.2.trans h.2.2.2⟩
theorem cE_t {S S1 S2 : rSt} (h : cEq S S1) (g : cEq S1 S2) : cEq S S2 := ⟨cE0_t h.1 g.1, g.2.1.trans h.2.1, g.2.2.1.trans h.2.2.1, g.2.2.2.trans h.2.2.2⟩
theorem mE0_i {S S1 : rSt} {a k : Nat} {x : Int32} (h : a < 60) (g : mEq0 S S1) : mEq0 S (si S1 a k x) := by
  refine ⟨fun j => ?_, g.2.1, g.2.2⟩
  rw [ri_i, if_neg (by omega)]
  exact g.1 j
theorem mE_i {S S1 : rSt} {a k : Nat} {x : Int32} (h : a < 60 ∧ ¬ (a = 43 ∧ k = 4)) (g : mEq S S1) : mEq S (si S1 a k x) := by
  refine ⟨mE0_i h.1 g.1, ?_, g.2.2.1, g.2.2.2⟩
  rw [ri_i]
  by_cases h1 : 43 = a
  · rw [if_pos h1, if_neg (by omega)]
    exact g.2.1
  · rw [if_neg h1]
    exact g.2.1
theorem mE0_l {S S1 : rSt} {a k : Nat} {x : Int64} (g : mEq0 S S1) : mEq0 S (sl S1 a k x) := g
theorem mE_l {S S1 : rSt} {a k : Nat} {x : Int64} (g : mEq S S1) : mEq S (sl S1 a k x) := g
theorem mE0_a {S S1 : rSt} {a : Nat} {f : Nat → Int32} (h : a < 61) (g : mEq0 S S1) : mEq0 S (sa S1 a f) := by
  refine ⟨g.1, fun b hb => ?_, g.2.2⟩
  rw [ra_a, if_neg (by omega)]
  exact g.2.1 b hb
theorem mE_a {S S1 : rSt} {a : Nat} {f : Nat → Int32} (h : a < 61 ∧ a ≠ 45 ∧ a ≠ 46) (g : mEq S S1) : mEq S (sa S1 a f) := by
  refine ⟨mE0_a h.1 g.1, g.2.1, ?_, ?_⟩
  · rw [ra_a, if_neg (by omega)]
    exact g.2.2.1
  · rw [ra_a, if_neg (by omega)]
    exact g.2.2.2
theorem mE_j {S S1 : rSt} {a : Nat} {f : Nat → Int64} (h : a ≠ 75) (g : mEq S S1) : mEq S (sj S1 a f) := by
  refine ⟨⟨g.1.1, g.1.2.1, ?_⟩, g.2⟩
  rw [rj_j, if_neg (by omega)]
  exact g.1.2.2
theorem cE0_i {S S1 : rSt} {k : Nat} {x : Int32} (g : cEq0 S S1) : cEq0 S (si S1 60 k x) := by
  refine ⟨fun a j ha => ?_, g.2.1, g.2.2.1, g.2.2.2⟩
  rw [ri_i, if_neg ha]
  exact g.1 a j ha
theorem cE_i {S S1 : rSt} {k : Nat} {x : Int32} (h : k ≠ 23) (g : cEq S S1) : cEq S (si S1 60 k x) := by
  refine ⟨cE0_i g.1, ?_, g.2.2⟩
  rw [ri_i, if_pos rfl, if_neg (by omega)]
  exact g.2.1
theorem cE0_a {S S1 : rSt} {a : Nat} {f : Nat → Int32} (h : 61 ≤ a) (g : cEq0 S S1) : cEq0 S (sa S1 a f) := by
  refine ⟨g.1, g.2.1, fun b hb => ?_, g.2.2.2⟩
  rw [ra_a, if_neg (by omega)]
  exact g.2.2.1 b hb
theorem cE_a {S S1 : rSt} {a : Nat} {f : Nat → Int32} (h : 61 ≤ a ∧ a ≠ 73 ∧ a ≠ 74) (g : cEq S S1) : cEq S (sa S1 a f) := by
  refine ⟨cE0_a h.1 g.1, g.2.1, ?_, ?_⟩
  · rw [ra_a, if_neg (by omega)]
    exact g.2.2.1
  · rw [ra_a, if_neg (by omega)]
    exact g.2.2.2
theorem cE_j {S S1 : rSt} {f : Nat → Int64} (g : cEq S S1) : cEq S (sj S1 75 f) := by
  refine ⟨⟨g.1.1, g.1.2.1, g.1.2.2.1, fun b hb => ?_⟩, g.2⟩
  rw [rj_j, if_neg hb]
  exact g.1.2.2.2 b hb
theorem R_m0 {V K T : Nat} {S M M1 : rSt} (h : R V K T S M) (g : mEq0 M M1) : R V K T S M1 := by
  obtain ⟨g1, g2, g3⟩ := g
  unfold R Rsz Rst Rtx Rre Rse Rev Rbo RTs RIg RIm at *
  simp only [g1, g2 61 (by decide), g2 62 (by decide), g2 63 (by decide), g2 64 (by decide), g2 65 (by decide), g2 66 (by decide), g2 67 (by decide), g2 68 (by decide), g2 69 (by decide), g2 70 (by decide), g2 71 (by decide), g2 72 (by decide), g2 76 (by decide), g2 77 (by decide), g2 78 (by decide), g3]
  exact h
theorem R_m {V K T : Nat} {S M M1 : rSt} (h : R V K T S M) (g : mEq M M1) : R V K T S M1 := R_m0 h g.1
theorem R_c0 {V K T : Nat} {S M S1 : rSt} (h : R V K T S M) (g : cEq0 S S1) : R V K T S1 M := by
  obtain ⟨g1, g2, g3, g4⟩ := g
  unfold R Rsz Rst Rtx Rre Rse Rev Rbo RTs RIg RIm RPt at *
  simp (disch := decide) only [g1, g2, g3, g4]
  exact h
theorem R_c {V K T : Nat} {S M S1 : rSt} (h : R V K T S M) (g : cEq S S1) : R V K T S1 M := R_c0 h g.1
abbrev oP : Type := rW → Option (Int32 × rW)
def Op (A B : oP) : Prop := ∀ V K T S M0, R V K T S M0 → ∃ r V' K' T' S1, A (Wd S) = some (r, Wd S1) ∧ mEq S S1 ∧ ∀ M, R V K T S M → ∃ M1, B (Wd M) = some (r, Wd M1) ∧ R V' K' T' S1 M1 ∧ cEq M M1
theorem Op_1 {A B : oP} (h : Op A B) {V K T : Nat} {S : rSt} (g : R V K T S S) : ∃ r S1 V' K' T' S2, A (Wd S) = some (r, Wd S1) ∧ B (Wd S1) = some (r, Wd S2) ∧ R V' K' T' S2 S2 := by
  obtain ⟨r, V', K', T', S1, e1, e2, e3⟩ := h V K T S S g
  obtain ⟨S2, f1, f2, f3⟩ := e3 S1 (R_m g e2)
  exact ⟨r, S1, V', K', T', S2, e1, f1, R_c f2 f3⟩

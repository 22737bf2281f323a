/-! PURE ROWS: evaluation, loops, numbers -/
/- these three aren't to be taken as definitional by simp: the kernel would unroll a loop's fuel -/
theorem bs {α β : Type} {a : α} {F : α → Option β} : (some a).bind F = F a := Eq.trans rfl rfl
theorem bn {α β : Type} {F : α → Option β} : (none : Option α).bind F = none := Eq.trans rfl rfl
theorem rLet_eq {α β : Type} {x : α} {F : α → β} : rLet x F = F x := Eq.trans rfl rfl
theorem rB2_e {α β γ : Type} {a : α} {b : β} {F : α → β → Option γ} : rB2 (some (a, b)) F = F a b := Eq.trans rfl rfl
theorem bi_t : bi true = 1 := rfl
theorem bi_f : bi false = 0 := rfl
theorem bi_0 (b : Bool) : (bi b = 0) ↔ b = false := by cases b <;> decide
theorem bi_n0 (b : Bool) : (¬ bi b = 0) ↔ b = true := by cases b <;> decide
theorem bi_d (p : Prop) {i : Decidable p} : (bi (decide p) = 0) ↔ ¬ p := by rw [bi_0]; simp
theorem ib_bi (b : Bool) : ib (bi b) = some b := by cases b <;> rfl
theorem bi_eq (a b : Bool) : (bi a = bi b) ↔ a = b := by cases a <;> cases b <;> decide
/-- a world's cell that is laid again, or another -/
theorem gs_same {w : rW} {c : Nat} {x : rCl} (h : w[c]? = some x) (y : rCl) : (w.set c y)[c]? = some y := by
  have := (List.getElem?_eq_some_iff.mp h).1
  simp [List.getElem?_set, this]
theorem gs_ne {w : rW} {c s : Nat} (h : c ≠ s) (y : rCl) : (w.set c y)[s]? = w[s]? := by simp [List.getElem?_set, h]
theorem set_set {w : rW} {c : Nat} (x y : rCl) : (w.set c x).set c y = w.set c y := by simp
theorem set_id {w : rW} {c : Nat} {x : rCl} (h : w[c]? = some x) : w.set c x = w := by
  apply List.ext_getElem?
  intro j
  rw [List.getElem?_set]
  by_cases hj : c = j
  · subst hj
    have := (List.getElem?_eq_some_iff.mp h).1
    rw [h]
    simp [this]
  · simp [hj]
theorem ne_OI {w : rW} {s c k n : Nat} {fs : List Value} {f : Nat → Int32} (h1 : w[s]? = some (cO k fs)) (h2 : w[c]? = some (cI n f)) : c ≠ s := by
  intro e; subst e; rw [h1] at h2; cases h2
theorem ne_OJ {w : rW} {s c k n : Nat} {fs : List Value} {f : Nat → Int64} (h1 : w[s]? = some (cO k fs)) (h2 : w[c]? = some (cJ n f)) : c ≠ s := by
  intro e; subst e; rw [h1] at h2; cases h2
theorem ne_IJ {w : rW} {s c m n : Nat} {g : Nat → Int32} {f : Nat → Int64} (h1 : w[s]? = some (cI m g)) (h2 : w[c]? = some (cJ n f)) : c ≠ s := by
  intro e; subst e; rw [h1] at h2; cases h2
theorem ne_OO {w : rW} {s c k m : Nat} {fs gs : List Value} (h1 : w[s]? = some (cO k fs)) (h2 : w[c]? = some (cO m gs)) (hkm : k ≠ m) : c ≠ s := by
  intro e; subst e; rw [h1] at h2; cases h2; exact hkm rfl
theorem ne_sym {a b : Nat} (h : a ≠ b) : b ≠ a := fun e => h e.symm
theorem nI_in2 {c N : Nat} (h : c < N) (hN : N < 2 ^ 31) : ¬ (nI c < 0 ∨ N ≤ (nI c).toNatClampNeg) := nI_in h hN
theorem aI_eq {w : rW} {c n j : Nat} {f : Nat → Int32} (h : w[c]? = some (cI n f)) (hj : j < n) (hn : n < 2 ^ 31) : aI w c (nI j) = some (f j) := by
  unfold aI
  rw [h]
  show (if _ then none else some _) = _
  rw [if_neg (nI_in hj hn), nI_clamp (by omega)]
theorem sI_eq {w : rW} {c n j : Nat} {f : Nat → Int32} (h : w[c]? = some (cI n f)) (hj : j < n) (hn : n < 2 ^ 31) (x : Int32) : sI w c (nI j) x = some (w.set c (cI n (upd f j x))) := by
  unfold sI
  rw [h]
  show (if _ then none else some _) = _
  rw [if_neg (nI_in hj hn), nI_clamp (by omega)]
theorem aJ_eq {w : rW} {c n j : Nat} {f : Nat → Int64} (h : w[c]? = some (cJ n f)) (hj : j < n) (hn : n < 2 ^ 31) : aJ w c (nI j) = some (f j) := by
  unfold aJ
  rw [h]
  show (if _ then none else some _) = _
  rw [if_neg (nI_in hj hn), nI_clamp (by omega)]
theorem sJ_eq {w : rW} {c n j : Nat} {f : Nat → Int64} (h : w[c]? = some (cJ n f)) (hj : j < n) (hn : n < 2 ^ 31) (x : Int64) : sJ w c (nI j) x = some (w.set c (cJ n (vp_updL f j x))) := by
  unfold sJ
  rw [h]
  show (if _ then none else some _) = _
  rw [if_neg (nI_in hj hn), nI_clamp (by omega)]
theorem up_s (f : Nat → Int32) (k : Nat) (x : Int32) : upd f k x k = x := by simp [upd]
theorem up_n {f : Nat → Int32} {k j : Nat} {x : Int32} (h : j ≠ k) : upd f k x j = f j := by simp [upd, h]
theorem up_a (f : Nat → Int32) (k j : Nat) (x : Int32) : upd f k x j = if j = k then x else f j := rfl
theorem uL_a (f : Nat → Int64) (k j : Nat) (x : Int64) : vp_updL f k x j = if j = k then x else f j := rfl
theorem up_id (f : Nat → Int32) (k : Nat) : upd f k (f k) = f := by
  funext j
  by_cases h : j = k
  · subst h; simp [upd]
  · simp [upd, h]
/-- a fold over the places i, i + 1, .. (m of them) -/
def rF {σ : Type} (F : Nat → σ → σ) : Nat → Nat → σ → σ
  | 0, _, s => s
  | m + 1, i, s => rF F m (i + 1) (F i s)
theorem rF_last {σ : Type} (F : Nat → σ → σ) : ∀ (m i : Nat) (s : σ), rF F (m + 1) i s = F (i + m) (rF F m i s) := by
  intro m
  induction m with
  | zero => intro i s; rfl
  | succ m ih =>
    intro i s
    show rF F (m + 1) (i + 1) (F i s) = F (i + (m + 1)) (rF F m (i + 1) (F i s))
    rw [ih]
    congr 1
    omega
theorem rF_congr {σ : Type} {F G : Nat → σ → σ} : ∀ (m i : Nat) (s : σ), (∀ j s, i ≤ j → j < i + m → F j s = G j s) → rF F m i s = rF G m i s := by
  intro m
  induction m with
  | zero => intro i s _; rfl
  | succ m ih =>
    intro i s h
    show rF F m (i + 1) (F i s) = rF G m (i + 1) (G i s)
    rw [h i s (Nat.le_refl _) (by omega)]
    exact ih _ _ (fun j s h1 h2 => h j s (by omega) (by omega))
/-- an invariant of a fold -/
theorem rF_inv {σ : Type} (F : Nat → σ → σ) (I : Nat → σ → Prop) : ∀ (m i : Nat) (s : σ), I i s → (∀ j s, i ≤ j → j < i + m → I j s → I (j + 1) (F j s)) → I (i + m) (rF F m i s) := by
  intro m
  induction m with
  | zero => intro i s h _; exact h
  | succ m ih =>
    intro i s h hs
    show I (i + (m + 1)) (rF F m (i + 1) (F i s))
    rw [show i + (m + 1) = i + 1 + m by omega]
    exact ih _ _ (hs i s (Nat.le_refl _) (by omega) h) (fun j s h1 h2 => hs j s (by omega) (by omega))
/-- two folds side by side -/
theorem rF_rel {σ τ : Type} (F : Nat → σ → σ) (G : Nat → τ → τ) (R : Nat → σ → τ → Prop) : ∀ (m i : Nat) (s : σ) (t : τ), R i s t → (∀ j s t, i ≤ j → j < i + m → R j s t → R (j + 1) (F j s) (G j t)) → R (i + m) (rF F m i s) (rF G m i t) := by
  intro m
  induction m with
  | zero => intro i s t h _; exact h
  | succ m ih =>
    intro i s t h hs
    show R (i + (m + 1)) (rF F m (i + 1) (F i s)) (rF G m (i + 1) (G i t))
    rw [show i + (m + 1) = i + 1 + m by omega]
    exact ih _ _ _ (hs i s t (Nat.le_refl _) (by omega) h) (fun j s t h1 h2 => hs j s t (by omega) (by omega))
/-- a loop that counts up to n, with an invariant -/
theorem loopF {σ ρ : Type} (L : Nat → σ → Nat → ρ) (K : σ → ρ) (F : Nat → σ → σ) (I : Nat → σ → Prop) (n : Nat) (hout : ∀ f s, I n s → L (f + 1) s n = K s) (hin : ∀ f s i, i < n → I i s → L (f + 1) s i = L f (F i s) (i + 1)) (hI : ∀ s i, i < n → I i s → I (i + 1) (F i s)) : ∀ m f s i, i + m = n → m < f → I i s → L f s i = K (rF F m i s) := by
  intro m
  induction m with
  | zero =>
    intro f s i hi hf h
    obtain ⟨g, rfl⟩ : ∃ g, f = g + 1 := ⟨f - 1, by omega⟩
    have : i = n := by omega
    subst this
    exact hout g s h
  | succ m ih =>
    intro f s i hi hf h
    obtain ⟨g, rfl⟩ : ∃ g, f = g + 1 := ⟨f - 1, by omega⟩
    rw [hin g s i (by omega) h]
    exact ih g _ _ (by omega) (by omega) (hI s i (by omega) h)
/-- .. without one -/
theorem loopS {σ ρ : Type} (L : Nat → σ → Nat → ρ) (K : σ → ρ) (F : Nat → σ → σ) (n : Nat) (hout : ∀ f s, L (f + 1) s n = K s) (hin : ∀ f s i, i < n → L (f + 1) s i = L f (F i s) (i + 1)) : ∀ m f s i, i + m = n → m < f → L f s i = K (rF F m i s) :=
  fun m f s i h1 h2 => loopF L K F (fun _ _ => True) n (fun f s _ => hout f s) (fun f s i h _ => hin f s i h) (fun _ _ _ _ => trivial) m f s i h1 h2 trivial
/-- the first place from i on (of m) with P -/
def rFd (P : Nat → Bool) : Nat → Nat → Option Nat
  | 0, _ => none
  | m + 1, i => if P i then some i else rFd P m (i + 1)
theorem rFd_congr {P Q : Nat → Bool} : ∀ (m i : Nat), (∀ j, i ≤ j → j < i + m → P j = Q j) → rFd P m i = rFd Q m i := by
  intro m
  induction m with
  | zero => intro i _; rfl
  | succ m ih =>
    intro i h
    show (if P i then some i else rFd P m (i + 1)) = (if Q i then some i else rFd Q m (i + 1))
    rw [h i (Nat.le_refl _) (by omega), ih (i + 1) (fun j h1 h2 => h j (by omega) (by omega))]
theorem rFd_some {P : Nat → Bool} : ∀ (m i : Nat) {j : Nat}, rFd P m i = some j → i ≤ j ∧ j < i + m ∧ P j = true ∧ ∀ q, i ≤ q → q < j → P q = false := by
  intro m
  induction m with
  | zero => intro i j h; cases h
  | succ m ih =>
    intro i j h
    have h : (if P i then some i else rFd P m (i + 1)) = some j := h
    by_cases hp : P i = true
    · rw [if_pos hp] at h
      cases h
      exact ⟨Nat.le_refl _, by omega, hp, fun q h1 h2 => absurd h2 (by omega)⟩
    · rw [if_neg hp] at h
      obtain ⟨a, b, c, d⟩ := ih _ h
      refine ⟨by omega, by omega, c, fun q h1 h2 => ?_⟩
      rcases Nat.eq_or_lt_of_le h1 with e | e
      · subst e; exact Bool.eq_false_iff.mpr hp
      · exact d q (by omega) h2
theorem rFd_none {P : Nat → Bool} : ∀ (m i : Nat), rFd P m i = none ↔ ∀ q, i ≤ q → q < i + m → P q = false := by
  intro m
  induction m with
  | zero => intro i; exact ⟨fun _ q h1 h2 => absurd h2 (by omega), fun _ => rfl⟩
  | succ m ih =>
    intro i
    show (if P i then some i else rFd P m (i + 1)) = none ↔ _
    by_cases hp : P i = true
    · rw [if_pos hp]
      refine ⟨fun h => (by cases h), fun h => ?_⟩
      rw [h i (Nat.le_refl _) (by omega)] at hp
      cases hp
    · rw [if_neg hp, ih]
      refine ⟨fun h q h1 h2 => ?_, fun h q h1 h2 => h q (by omega) (by omega)⟩
      rcases Nat.eq_or_lt_of_le h1 with e | e
      · subst e; exact Bool.eq_false_iff.mpr hp
      · exact h q (by omega) (by omega)
/-- a loop that looks for a place -/
theorem loopD {ρ : Type} (L : Nat → Nat → ρ) (K : ρ) (R : Nat → ρ) (P : Nat → Bool) (n : Nat) (hout : ∀ f, L (f + 1) n = K) (hin : ∀ f i, i < n → L (f + 1) i = if P i = true then R i else L f (i + 1)) : ∀ m f i, i + m = n → m < f → L f i = (match rFd P m i with | some j => R j | none => K) := by
  intro m
  induction m with
  | zero =>
    intro f i hi hf
    obtain ⟨g, rfl⟩ : ∃ g, f = g + 1 := ⟨f - 1, by omega⟩
    have : i = n := by omega
    subst this
    exact hout g
  | succ m ih =>
    intro f i hi hf
    obtain ⟨g, rfl⟩ : ∃ g, f = g + 1 := ⟨f - 1, by omega⟩
    rw [hin g i (by omega)]
    show _ = (match (if P i then some i else rFd P m (i + 1)) with | some j => R j | none => K)
    by_cases hp : P i = true
    · rw [if_pos hp, if_pos hp]
    · rw [if_neg hp, if_neg hp]
      exact ih g _ (by omega) (by omega)
/-- .. that answers alike wherever it finds one -/
theorem loopA {ρ : Type} (L : Nat → Nat → ρ) (K R : ρ) (P : Nat → Bool) (n : Nat) (hout : ∀ f, L (f + 1) n = K) (hin : ∀ f i, i < n → L (f + 1) i = if P i = true then R else L f (i + 1)) {f : Nat} (hf : n < f) : L f 0 = if (rFd P n 0).isSome = true then R else K := by
  rw [loopD L K (fun _ => R) P n hout hin n f 0 (by omega) hf]
  cases rFd P n 0 <;> rfl
theorem nI_lt0 {n : Nat} (h : n < 2 ^ 31) : ¬ nI n < 0 := nI_pos h
theorem nI_ex (x : Int32) (h : 0 ≤ x) : ∃ n : Nat, n < 2 ^ 31 ∧ x = nI n := nI_of (Int32.not_lt.mpr h)
theorem nI_nat (x : Int32) {n : Nat} (hn : n < 2 ^ 31) (h0 : 0 ≤ x) (h1 : ¬ nI n ≤ x) : ∃ j : Nat, j < n ∧ x = nI j := by
  rcases pk_ix x hn with h | h | h
  · exact absurd h0 (Int32.not_le.mpr h)
  · exact absurd h h1
  · exact h
theorem nI_inj {a b : Nat} (ha : a < 2 ^ 31) (hb : b < 2 ^ 31) (h : nI a = nI b) : a = b := (nI_eq ha hb).mp h
theorem shl1 : ∀ n, n < 31 → (1 : Int32) <<< (nI n &&& 31) = nI (2 ^ n) := by decide +kernel

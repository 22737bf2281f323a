/-! CELLS -/
def gF (w : rW) (a ci k : Nat) : Option Value := match w[a]? with
  | some (.inr (.inr (.inr (c, fs)))) => if c = ci then fs[k]? else none
  | _ => none
def gI (w : rW) (a ci k : Nat) : Option Int32 := match gF w a ci k with
  | some (.int x) => some x
  | _ => none
def gJ (w : rW) (a ci k : Nat) : Option Int64 := match gF w a ci k with
  | some (.long x) => some x
  | _ => none
def gR (w : rW) (a ci k : Nat) : Option Nat := match gF w a ci k with
  | some (.ref x) => some x
  | _ => none
def pF (w : rW) (a ci k : Nat) (v : Value) : Option rW := match w[a]? with
  | some (.inr (.inr (.inr (c, fs)))) => if c = ci ∧ k < fs.length then some (w.set a (cO ci (fs.set k v))) else none
  | _ => none
def aI (w : rW) (a : Nat) (i : Int32) : Option Int32 := match w[a]? with
  | some (.inl (n, f)) => if i < 0 ∨ n ≤ i.toNatClampNeg then none else some (f i.toNatClampNeg)
  | _ => none
def aJ (w : rW) (a : Nat) (i : Int32) : Option Int64 := match w[a]? with
  | some (.inr (.inl (n, f))) => if i < 0 ∨ n ≤ i.toNatClampNeg then none else some (f i.toNatClampNeg)
  | _ => none
def aR (w : rW) (a : Nat) (i : Int32) : Option Nat := match w[a]? with
  | some (.inr (.inr (.inl (n, f)))) => if i < 0 ∨ n ≤ i.toNatClampNeg then none else f i.toNatClampNeg
  | _ => none
def sI (w : rW) (a : Nat) (i x : Int32) : Option rW := match w[a]? with
  | some (.inl (n, f)) => if i < 0 ∨ n ≤ i.toNatClampNeg then none else some (w.set a (cI n (upd f i.toNatClampNeg x)))
  | _ => none
def sJ (w : rW) (a : Nat) (i : Int32) (x : Int64) : Option rW := match w[a]? with
  | some (.inr (.inl (n, f))) => if i < 0 ∨ n ≤ i.toNatClampNeg then none else some (w.set a (cJ n (vp_updL f i.toNatClampNeg x)))
  | _ => none
def sR (w : rW) (a : Nat) (i : Int32) (ci x : Nat) : Option rW := match w[a]?, w[x]? with
  | some (.inr (.inr (.inl (n, f)))), some (.inr (.inr (.inr (c, _)))) => if c = ci then (if i < 0 ∨ n ≤ i.toNatClampNeg then none else some (w.set a (cR n (va_up f i.toNatClampNeg (some x))))) else none
  | _, _ => none
def aLen (w : rW) (a : Nat) : Option Int32 := match w[a]? with
  | some (.inl (n, _)) => some (Int32.ofNat n)
  | some (.inr (.inl (n, _))) => some (Int32.ofNat n)
  | some (.inr (.inr (.inl (n, _)))) => some (Int32.ofNat n)
  | _ => none
/-- the receiver is an object of the kind -/
def rRc {α : Type} (w : rW) (a ci : Nat) (F : Option α) : Option α := match w[a]? with
  | some (.inr (.inr (.inr (c, _)))) => if c = ci then F else none
  | _ => none
/-- a new row of at most b -/
def nI' (w : rW) (b : Nat) (x : Int32) : Option (Nat × rW) := if x < 0 ∨ b < x.toNatClampNeg then none else some (w.length, w ++ [cI x.toNatClampNeg (fun _ => 0)])
def nJ' (w : rW) (b : Nat) (x : Int32) : Option (Nat × rW) := if x < 0 ∨ b < x.toNatClampNeg then none else some (w.length, w ++ [cJ x.toNatClampNeg (fun _ => 0)])
def nR' (w : rW) (b : Nat) (x : Int32) : Option (Nat × rW) := if x < 0 ∨ b < x.toNatClampNeg then none else some (w.length, w ++ [cR x.toNatClampNeg (fun _ => none)])
def nO' (w : rW) (ci : Nat) (fs : List Value) : Option (Nat × rW) := some (w.length, w ++ [cO ci fs])
def rCpI (w : rW) (a : Nat) (sp : Int32) (b : Nat) (dp n : Int32) : Option rW := match w[a]?, w[b]? with
  | some (.inl (n0, f)), some (.inl (n1, g)) => if sp < 0 ∨ dp < 0 ∨ n < 0 ∨ n0 < sp.toNatClampNeg + n.toNatClampNeg ∨ n1 < dp.toNatClampNeg + n.toNatClampNeg then none else some (w.set b (cI n1 (va_cpy f g sp.toNatClampNeg dp.toNatClampNeg n.toNatClampNeg)))
  | _, _ => none
def rCpJ (w : rW) (a : Nat) (sp : Int32) (b : Nat) (dp n : Int32) : Option rW := match w[a]?, w[b]? with
  | some (.inr (.inl (n0, f))), some (.inr (.inl (n1, g))) => if sp < 0 ∨ dp < 0 ∨ n < 0 ∨ n0 < sp.toNatClampNeg + n.toNatClampNeg ∨ n1 < dp.toNatClampNeg + n.toNatClampNeg then none else some (w.set b (cJ n1 (va_cpy f g sp.toNatClampNeg dp.toNatClampNeg n.toNatClampNeg)))
  | _, _ => none
def bi (b : Bool) : Int32 := if b then 1 else 0
def rLet {α β : Type} (x : α) (F : α → β) : β := F x
def rIs (r : Option Value) (w : rW) : Option Value → rW → Prop := fun r' w' => r' = r ∧ w' = w
def jdiv (x y : Int32) : Option Int32 := if y = 0 then none else some (x / y)
def jrem (x y : Int32) : Option Int32 := if y = 0 then none else some (x - x / y * y)
def jmax (x y : Int32) : Int32 := if x < y then y else x
def jmin (x y : Int32) : Int32 := if y < x then y else x
def jushr (x y : Int32) : Int32 := (x.toUInt32 >>> (y.toUInt32 &&& Int32.toUInt32 31)).toInt32
theorem rBind {α β : Type} {x : Option α} {F : α → Option β} {r : β} (h : x.bind F = some r) : ∃ y, x = some y ∧ F y = some r := by
  cases x with
  | none => cases h
  | some y => exact ⟨y, rfl, h⟩
theorem rIfT {α : Type} {c : Prop} {A B : α} {r : α} {i : Decidable c} (h : (if c then A else B) = r) (hc : c) : A = r := by rw [if_pos hc] at h; exact h
theorem rIfF {α : Type} {c : Prop} {A B : α} {r : α} {i : Decidable c} (h : (if c then A else B) = r) (hc : ¬ c) : B = r := by rw [if_neg hc] at h; exact h
theorem gF_some {w : rW} {a ci k : Nat} {v : Value} (h : gF w a ci k = some v) : ∃ fs, w[a]? = some (cO ci fs) ∧ fs[k]? = some v := by
  unfold gF at h
  split at h
  · rename_i c fs hw
    split at h
    · rename_i hc; subst hc; exact ⟨fs, hw, h⟩
    · cases h
  · cases h
theorem gI_some {w : rW} {a ci k : Nat} {x : Int32} (h : gI w a ci k = some x) : ∃ fs, w[a]? = some (cO ci fs) ∧ fs[k]? = some (.int x) := by
  unfold gI at h
  split at h
  · rename_i y hy; cases h; exact gF_some hy
  · cases h
theorem gJ_some {w : rW} {a ci k : Nat} {x : Int64} (h : gJ w a ci k = some x) : ∃ fs, w[a]? = some (cO ci fs) ∧ fs[k]? = some (.long x) := by
  unfold gJ at h
  split at h
  · rename_i y hy; cases h; exact gF_some hy
  · cases h
theorem gR_some {w : rW} {a ci k : Nat} {x : Nat} (h : gR w a ci k = some x) : ∃ fs, w[a]? = some (cO ci fs) ∧ fs[k]? = some (.ref x) := by
  unfold gR at h
  split at h
  · rename_i y hy; cases h; exact gF_some hy
  · cases h
theorem gF_eq {w : rW} {a ci k : Nat} {fs : List Value} {v : Value} (h : w[a]? = some (cO ci fs)) (hk : fs[k]? = some v) : gF w a ci k = some v := by simp [gF, h, hk]
theorem gI_eq {w : rW} {a ci k : Nat} {fs : List Value} {x : Int32} (h : w[a]? = some (cO ci fs)) (hk : fs[k]? = some (.int x)) : gI w a ci k = some x := by simp [gI, gF_eq h hk]
theorem gJ_eq {w : rW} {a ci k : Nat} {fs : List Value} {x : Int64} (h : w[a]? = some (cO ci fs)) (hk : fs[k]? = some (.long x)) : gJ w a ci k = some x := by simp [gJ, gF_eq h hk]
theorem gR_eq {w : rW} {a ci k : Nat} {fs : List Value} {x : Nat} (h : w[a]? = some (cO ci fs)) (hk : fs[k]? = some (.ref x)) : gR w a ci k = some x := by simp [gR, gF_eq h hk]
theorem pF_some {w w' : rW} {a ci k : Nat} {v : Value} (h : pF w a ci k v = some w') : ∃ fs, w[a]? = some (cO ci fs) ∧ k < fs.length ∧ w' = w.set a (cO ci (fs.set k v)) := by
  unfold pF at h
  split at h
  · rename_i c fs hw
    split at h
    · rename_i hc; obtain ⟨rfl, hk⟩ := hc; cases h; exact ⟨fs, hw, hk, rfl⟩
    · cases h
  · cases h
theorem pF_eq {w : rW} {a ci k : Nat} {v : Value} {fs : List Value} (h : w[a]? = some (cO ci fs)) (hk : k < fs.length) : pF w a ci k v = some (w.set a (cO ci (fs.set k v))) := by simp [pF, h, hk]
theorem aI_some {w : rW} {a : Nat} {i x : Int32} (h : aI w a i = some x) : ∃ n f, w[a]? = some (cI n f) ∧ vp_in i n ∧ x = f i.toNatClampNeg := by
  unfold aI at h
  split at h
  · rename_i n f hw
    split at h
    · cases h
    · rename_i hi; cases h; exact ⟨n, f, hw, hi, rfl⟩
  · cases h
theorem aJ_some {w : rW} {a : Nat} {i : Int32} {x : Int64} (h : aJ w a i = some x) : ∃ n f, w[a]? = some (cJ n f) ∧ vp_in i n ∧ x = f i.toNatClampNeg := by
  unfold aJ at h
  split at h
  · rename_i n f hw
    split at h
    · cases h
    · rename_i hi; cases h; exact ⟨n, f, hw, hi, rfl⟩
  · cases h
theorem aR_some {w : rW} {a : Nat} {i : Int32} {x : Nat} (h : aR w a i = some x) : ∃ n f, w[a]? = some (cR n f) ∧ vp_in i n ∧ some x = f i.toNatClampNeg := by
  unfold aR at h
  split at h
  · rename_i n f hw
    split at h
    · cases h
    · rename_i hi; exact ⟨n, f, hw, hi, h.symm⟩
  · cases h
theorem sI_some {w w' : rW} {a : Nat} {i x : Int32} (h : sI w a i x = some w') : ∃ n f, w[a]? = some (cI n f) ∧ vp_in i n ∧ w' = w.set a (cI n (upd f i.toNatClampNeg x)) := by
  unfold sI at h
  split at h
  · rename_i n f hw
    split at h
    · cases h
    · rename_i hi; cases h; exact ⟨n, f, hw, hi, rfl⟩
  · cases h
theorem sJ_some {w w' : rW} {a : Nat} {i : Int32} {x : Int64} (h : sJ w a i x = some w') : ∃ n f, w[a]? = some (cJ n f) ∧ vp_in i n ∧ w' = w.set a (cJ n (vp_updL f i.toNatClampNeg x)) := by
  unfold sJ at h
  split at h
  · rename_i n f hw
    split at h
    · cases h
    · rename_i hi; cases h; exact ⟨n, f, hw, hi, rfl⟩
  · cases h
theorem sR_some {w w' : rW} {a ci x : Nat} {i : Int32} (h : sR w a i ci x = some w') : ∃ n f fs, w[a]? = some (cR n f) ∧ w[x]? = some (cO ci fs) ∧ vp_in i n ∧ w' = w.set a (cR n (va_up f i.toNatClampNeg (some x))) := by
  unfold sR at h
  split at h
  · rename_i n f c fs hw hx
    split at h
    · rename_i hc
      subst hc
      split at h
      · cases h
      · rename_i hi; cases h; exact ⟨n, f, fs, hw, hx, hi, rfl⟩
    · cases h
  · cases h
theorem rRc_some {α : Type} {w : rW} {a ci : Nat} {F : Option α} {r : α} (h : rRc w a ci F = some r) : (∃ fs, w[a]? = some (cO ci fs)) ∧ F = some r := by
  unfold rRc at h
  split at h
  · rename_i c fs hw
    split at h
    · rename_i hc; subst hc; exact ⟨⟨fs, hw⟩, h⟩
    · cases h
  · cases h
theorem rRc_eq {α : Type} {w : rW} {a ci : Nat} {F : Option α} {fs : List Value} (h : w[a]? = some (cO ci fs)) : rRc w a ci F = F := by simp [rRc, h]
theorem rCpI_some {w w' : rW} {a b : Nat} {sp dp n : Int32} (h : rCpI w a sp b dp n = some w') : ∃ n0 f n1 g, w[a]? = some (cI n0 f) ∧ w[b]? = some (cI n1 g) ∧ ¬ sp < 0 ∧ ¬ dp < 0 ∧ ¬ n < 0 ∧ sp.toNatClampNeg + n.toNatClampNeg ≤ n0 ∧ dp.toNatClampNeg + n.toNatClampNeg ≤ n1 ∧ w' = w.set b (cI n1 (va_cpy f g sp.toNatClampNeg dp.toNatClampNeg n.toNatClampNeg)) := by
  unfold rCpI at h
  split at h
  · rename_i n0 f n1 g hw hx
    split at h
    · cases h
    · rename_i hi; cases h
      simp only [not_or, Nat.not_lt] at hi
      exact ⟨n0, f, n1, g, hw, hx, hi.1, hi.2.1, hi.2.2.1, hi.2.2.2.1, hi.2.2.2.2, rfl⟩
  · cases h
theorem rCpJ_some {w w' : rW} {a b : Nat} {sp dp n : Int32} (h : rCpJ w a sp b dp n = some w') : ∃ n0 f n1 g, w[a]? = some (cJ n0 f) ∧ w[b]? = some (cJ n1 g) ∧ ¬ sp < 0 ∧ ¬ dp < 0 ∧ ¬ n < 0 ∧ sp.toNatClampNeg + n.toNatClampNeg ≤ n0 ∧ dp.toNatClampNeg + n.toNatClampNeg ≤ n1 ∧ w' = w.set b (cJ n1 (va_cpy f g sp.toNatClampNeg dp.toNatClampNeg n.toNatClampNeg)) := by
  unfold rCpJ at h
  split at h
  · rename_i n0 f n1 g hw hx
    split at h
    · cases h
    · rename_i hi; cases h
      simp only [not_or, Nat.not_lt] at hi
      exact ⟨n0, f, n1, g, hw, hx, hi.1, hi.2.1, hi.2.2.1, hi.2.2.2.1, hi.2.2.2.2, rfl⟩
  · cases h
/-- a field, as an instruction of own names it (ix): field k of kind ci -/
def rFl (own : String) (ix ci k : Nat) : Prop := ∃ (C : String) (T : u_T) (N : Nat), vwCl[ci]? = some (C, T, N) ∧ (∀ w ∈ u_ws C T N, w ∈ AW) ∧ k < N ∧ Cond.fieldLink own ix C (T k).2.1 (T k).2.2.1 ∈ AW ∧ (T k).1 = C
def rFp (ci k : Nat) (ty : FieldType) (fin : Bool) (own : String) : Prop := ∃ (C : String) (T : u_T) (N : Nat) (ty0 : Nat → FieldType), vwCl[ci]? = some (C, T, N) ∧ (∀ j, j < N → parseFieldDescriptor (T j).2.2.1 = some (ty0 j)) ∧ (∀ a, a < N → ∀ b, b < N → a ≠ b → (T a).2.1 ≠ (T b).2.1) ∧ (T k).2.2.2 = fin ∧ parseFieldDescriptor (T k).2.2.1 = some ty ∧ (fin = true → (T k).1 = own)
section RULES
variable {Z : rG → Prop} {M : rM} {d k n pc : Nat} {l : List (Nat × Value)} {st : List Value} {w : rW} {Q : Option Value → rW → Prop} {α : Type} {res : α}
theorem rv_let {β : Type} {x : β} {F : β → Option α} {P : Prop} (h : rLet x F = some res) (kk : F x = some res → P) : P := kk h

theorem rv_getI {ix ci j a : Nat} {F : Int32 → Option α} (hf : rFl M.1.cls ix ci j) (hd : decode M.2.1 pc = .ok (.getfield ix, 3)) (h : (gI w a ci j).bind F = some res) (kk : ∀ x, F x = some res → rEvZ Z M d k n (pc + 3) l (.int x :: st) w Q) : rEvZ Z M d k n pc l (.ref a :: st) w Q := by
  obtain ⟨x, hx, h⟩ := rBind h
  obtain ⟨fs, hw, hj⟩ := gI_some hx
  obtain ⟨C, T, N, hc, hin, hjN, hl0, hs⟩ := hf
  intro p lau e R s m args below meth c G H locs cells slots mc ms ls Qm X hl hE
  refine va_get (C := C) (T := T) (N := N) (ref := C) (index := ix) X.1.1 X.1.2.1 X.1.2.2.2.2 hin X.1.2.2.2.1 X.2.2.2.1.1.1 X.2.2.2.2.1 a (rws_at hw) hc j hjN (X.1.2.2.2.2 _ hl0) (fun y hy => by rw [hs] at hy; exact hy) (v := rv G (.int x)) (by rw [List.getElem?_map, hj]; rfl) hd ?_
  exact kk x h p lau e R s m args below meth c G H locs cells slots mc ms ls Qm X hl hE
theorem rv_getJ {ix ci j a : Nat} {F : Int64 → Option α} (hf : rFl M.1.cls ix ci j) (hd : decode M.2.1 pc = .ok (.getfield ix, 3)) (h : (gJ w a ci j).bind F = some res) (kk : ∀ x, F x = some res → rEvZ Z M d k n (pc + 3) l (.long x :: st) w Q) : rEvZ Z M d k n pc l (.ref a :: st) w Q := by
  obtain ⟨x, hx, h⟩ := rBind h
  obtain ⟨fs, hw, hj⟩ := gJ_some hx
  obtain ⟨C, T, N, hc, hin, hjN, hl0, hs⟩ := hf
  intro p lau e R s m args below meth c G H locs cells slots mc ms ls Qm X hl hE
  refine va_get (C := C) (T := T) (N := N) (ref := C) (index := ix) X.1.1 X.1.2.1 X.1.2.2.2.2 hin X.1.2.2.2.1 X.2.2.2.1.1.1 X.2.2.2.2.1 a (rws_at hw) hc j hjN (X.1.2.2.2.2 _ hl0) (fun y hy => by rw [hs] at hy; exact hy) (v := rv G (.long x)) (by rw [List.getElem?_map, hj]; rfl) hd ?_
  exact kk x h p lau e R s m args below meth c G H locs cells slots mc ms ls Qm X hl hE
theorem rv_getR {ix ci j a : Nat} {F : Nat → Option α} (hf : rFl M.1.cls ix ci j) (hd : decode M.2.1 pc = .ok (.getfield ix, 3)) (h : (gR w a ci j).bind F = some res) (kk : ∀ x, F x = some res → rEvZ Z M d k n (pc + 3) l (.ref x :: st) w Q) : rEvZ Z M d k n pc l (.ref a :: st) w Q := by
  obtain ⟨x, hx, h⟩ := rBind h
  obtain ⟨fs, hw, hj⟩ := gR_some hx
  obtain ⟨C, T, N, hc, hin, hjN, hl0, hs⟩ := hf
  intro p lau e R s m args below meth c G H locs cells slots mc ms ls Qm X hl hE
  refine va_get (C := C) (T := T) (N := N) (ref := C) (index := ix) X.1.1 X.1.2.1 X.1.2.2.2.2 hin X.1.2.2.2.1 X.2.2.2.1.1.1 X.2.2.2.2.1 a (rws_at hw) hc j hjN (X.1.2.2.2.2 _ hl0) (fun y hy => by rw [hs] at hy; exact hy) (v := rv G (.ref x)) (by rw [List.getElem?_map, hj]; rfl) hd ?_
  exact kk x h p lau e R s m args below meth c G H locs cells slots mc ms ls Qm X hl hE
theorem rv_putI {ix ci j a : Nat} {x : Int32} {F : rW → Option α} (hf : rFl M.1.cls ix ci j) (hp : rFp ci j .int false M.1.cls) (hd : decode M.2.1 pc = .ok (.putfield ix, 3)) (h : (pF w a ci j (.int x)).bind F = some res) (kk : ∀ w2, F w2 = some res → rEvZ Z M d k n (pc + 3) l st w2 Q) : rEvZ Z M d k n pc l (.int x :: .ref a :: st) w Q := by
  obtain ⟨w2, hx, h⟩ := rBind h
  obtain ⟨fs, hw, hjl, rfl⟩ := pF_some hx
  obtain ⟨C, T, N, hc, hin, hjN, hl0, hs⟩ := hf
  obtain ⟨C2, T2, N2, ty0, hc2, hty, hnm, hfin, hdt, hown⟩ := hp
  cases hc.symm.trans hc2
  intro p lau e R s m args below meth c G H locs cells slots mc ms ls Qm X hl hE
  refine va_put (C := C) (T := T) (N := N) (ref := C) (index := ix) X.1.1 X.1.2.1 X.1.2.2.2.2 hin ty0 hty hnm X.1.2.2.2.1 X.2.2.2.1.1.1 X.2.2.2.2.1 (rD G w) X.2.2.2.2.2 a (rws_at hw) hc j hjN (X.1.2.2.2.2 _ hl0) (fun y hy => by rw [hs] at hy; exact hy) hfin (v := rv G (.int x)) hdt rfl rfl (by rw [List.length_map]; exact hjl) hd (fun H1 locs1 hP1 _ hS1 => ?_)
  refine kk _ h p lau e R s m args below meth c G H1 locs1 cells slots mc ms ls Qm ⟨X.1, X.2.1, X.2.2.1, ⟨X.2.2.2.1.1, X.2.2.2.1.2.1, X.2.2.2.1.2.2.1, by rw [List.length_set]; exact X.2.2.2.1.2.2.2⟩, ?_, hS1⟩ hl hE
  rw [← rws_set]
  have e1 : ((fs.map (rv G)).set j (rv G (.int x))) = (fs.set j (.int x)).map (rv G) := by rw [List.map_set]
  rw [e1] at hP1
  exact hP1
theorem rv_putZ {ix ci j a : Nat} {x : Int32} {F : rW → Option α} (hf : rFl M.1.cls ix ci j) (hp : rFp ci j .boolean false M.1.cls) (hd : decode M.2.1 pc = .ok (.putfield ix, 3)) (hn : narrow .boolean (.int x) = .int x) (hft : fits .boolean (.int x) = true) (h : (pF w a ci j (.int x)).bind F = some res) (kk : ∀ w2, F w2 = some res → rEvZ Z M d k n (pc + 3) l st w2 Q) : rEvZ Z M d k n pc l (.int x :: .ref a :: st) w Q := by
  obtain ⟨w2, hx, h⟩ := rBind h
  obtain ⟨fs, hw, hjl, rfl⟩ := pF_some hx
  obtain ⟨C, T, N, hc, hin, hjN, hl0, hs⟩ := hf
  obtain ⟨C2, T2, N2, ty0, hc2, hty, hnm, hfin, hdt, hown⟩ := hp
  cases hc.symm.trans hc2
  intro p lau e R s m args below meth c G H locs cells slots mc ms ls Qm X hl hE
  refine va_put (C := C) (T := T) (N := N) (ref := C) (index := ix) X.1.1 X.1.2.1 X.1.2.2.2.2 hin ty0 hty hnm X.1.2.2.2.1 X.2.2.2.1.1.1 X.2.2.2.2.1 (rD G w) X.2.2.2.2.2 a (rws_at hw) hc j hjN (X.1.2.2.2.2 _ hl0) (fun y hy => by rw [hs] at hy; exact hy) hfin (v := rv G (.int x)) hdt hn hft (by rw [List.length_map]; exact hjl) hd (fun H1 locs1 hP1 _ hS1 => ?_)
  refine kk _ h p lau e R s m args below meth c G H1 locs1 cells slots mc ms ls Qm ⟨X.1, X.2.1, X.2.2.1, ⟨X.2.2.2.1.1, X.2.2.2.1.2.1, X.2.2.2.1.2.2.1, by rw [List.length_set]; exact X.2.2.2.1.2.2.2⟩, ?_, hS1⟩ hl hE
  rw [← rws_set]
  have e1 : ((fs.map (rv G)).set j (rv G (.int x))) = (fs.set j (.int x)).map (rv G) := by rw [List.map_set]
  rw [e1] at hP1
  exact hP1
theorem rv_putJ {ix ci j a : Nat} {x : Int64} {F : rW → Option α} (hf : rFl M.1.cls ix ci j) (hp : rFp ci j .long false M.1.cls) (hd : decode M.2.1 pc = .ok (.putfield ix, 3)) (h : (pF w a ci j (.long x)).bind F = some res) (kk : ∀ w2, F w2 = some res → rEvZ Z M d k n (pc + 3) l st w2 Q) : rEvZ Z M d k n pc l (.long x :: .ref a :: st) w Q := by
  obtain ⟨w2, hx, h⟩ := rBind h
  obtain ⟨fs, hw, hjl, rfl⟩ := pF_some hx
  obtain ⟨C, T, N, hc, hin, hjN, hl0, hs⟩ := hf
  obtain ⟨C2, T2, N2, ty0, hc2, hty, hnm, hfin, hdt, hown⟩ := hp
  cases hc.symm.trans hc2
  intro p lau e R s m args below meth c G H locs cells slots mc ms ls Qm X hl hE
  refine va_put (C := C) (T := T) (N := N) (ref := C) (index := ix) X.1.1 X.1.2.1 X.1.2.2.2.2 hin ty0 hty hnm X.1.2.2.2.1 X.2.2.2.1.1.1 X.2.2.2.2.1 (rD G w) X.2.2.2.2.2 a (rws_at hw) hc j hjN (X.1.2.2.2.2 _ hl0) (fun y hy => by rw [hs] at hy; exact hy) hfin (v := rv G (.long x)) hdt rfl rfl (by rw [List.length_map]; exact hjl) hd (fun H1 locs1 hP1 _ hS1 => ?_)
  refine kk _ h p lau e R s m args below meth c G H1 locs1 cells slots mc ms ls Qm ⟨X.1, X.2.1, X.2.2.1, ⟨X.2.2.2.1.1, X.2.2.2.1.2.1, X.2.2.2.1.2.2.1, by rw [List.length_set]; exact X.2.2.2.1.2.2.2⟩, ?_, hS1⟩ hl hE
  rw [← rws_set]
  have e1 : ((fs.map (rv G)).set j (rv G (.long x))) = (fs.set j (.long x)).map (rv G) := by rw [List.map_set]
  rw [e1] at hP1
  exact hP1
theorem rv_putFO {ix ci j a : Nat} {x : Nat} {cn : String} {F : rW → Option α} (hf : rFl M.1.cls ix ci j) (hp : rFp ci j (.object cn) true M.1.cls) (hd : decode M.2.1 pc = .ok (.putfield ix, 3)) (hin2 : M.1.name = "<init>") (h : (pF w a ci j (.ref x)).bind F = some res) (kk : ∀ w2, F w2 = some res → rEvZ Z M d k n (pc + 3) l st w2 Q) : rEvZ Z M d k n pc l (.ref x :: .ref a :: st) w Q := by
  obtain ⟨w2, hx, h⟩ := rBind h
  obtain ⟨fs, hw, hjl, rfl⟩ := pF_some hx
  obtain ⟨C, T, N, hc, hin, hjN, hl0, hs⟩ := hf
  obtain ⟨C2, T2, N2, ty0, hc2, hty, hnm, hfin, hdt, hown⟩ := hp
  cases hc.symm.trans hc2
  intro p lau e R s m args below meth c G H locs cells slots mc ms ls Qm X hl hE
  refine va_putF (C := C) (T := T) (N := N) (ref := C) (index := ix) X.1.1 X.1.2.1 X.1.2.2.2.2 hin ty0 hty hnm X.1.2.2.2.1 X.2.2.2.1.1.1 X.2.2.2.2.1 (rD G w) X.2.2.2.2.2 a (rws_at hw) hc j hjN (X.1.2.2.2.2 _ hl0) (fun y hy => by rw [hs] at hy; exact hy) hfin (X.2.1.2.2.1 hin2) (hown rfl) (v := rv G (.ref x)) hdt rfl rfl (by rw [List.length_map]; exact hjl) hd (fun H1 locs1 hP1 _ hS1 => ?_)
  refine kk _ h p lau e R s m args below meth c G H1 locs1 cells slots mc ms ls Qm ⟨X.1, X.2.1, X.2.2.1, ⟨X.2.2.2.1.1, X.2.2.2.1.2.1, X.2.2.2.1.2.2.1, by rw [List.length_set]; exact X.2.2.2.1.2.2.2⟩, ?_, hS1⟩ hl hE
  rw [← rws_set]
  have e1 : ((fs.map (rv G)).set j (rv G (.ref x))) = (fs.set j (.ref x)).map (rv G) := by rw [List.map_set]
  rw [e1] at hP1
  exact hP1
theorem rv_putFA {ix ci j a : Nat} {x : Nat} {te : FieldType} {F : rW → Option α} (hf : rFl M.1.cls ix ci j) (hp : rFp ci j (.array te) true M.1.cls) (hd : decode M.2.1 pc = .ok (.putfield ix, 3)) (hin2 : M.1.name = "<init>") (h : (pF w a ci j (.ref x)).bind F = some res) (kk : ∀ w2, F w2 = some res → rEvZ Z M d k n (pc + 3) l st w2 Q) : rEvZ Z M d k n pc l (.ref x :: .ref a :: st) w Q := by
  obtain ⟨w2, hx, h⟩ := rBind h
  obtain ⟨fs, hw, hjl, rfl⟩ := pF_some hx
  obtain ⟨C, T, N, hc, hin, hjN, hl0, hs⟩ := hf
  obtain ⟨C2, T2, N2, ty0, hc2, hty, hnm, hfin, hdt, hown⟩ := hp
  cases hc.symm.trans hc2
  intro p lau e R s m args below meth c G H locs cells slots mc ms ls Qm X hl hE
  refine va_putF (C := C) (T := T) (N := N) (ref := C) (index := ix) X.1.1 X.1.2.1 X.1.2.2.2.2 hin ty0 hty hnm X.1.2.2.2.1 X.2.2.2.1.1.1 X.2.2.2.2.1 (rD G w) X.2.2.2.2.2 a (rws_at hw) hc j hjN (X.1.2.2.2.2 _ hl0) (fun y hy => by rw [hs] at hy; exact hy) hfin (X.2.1.2.2.1 hin2) (hown rfl) (v := rv G (.ref x)) hdt rfl rfl (by rw [List.length_map]; exact hjl) hd (fun H1 locs1 hP1 _ hS1 => ?_)
  refine kk _ h p lau e R s m args below meth c G H1 locs1 cells slots mc ms ls Qm ⟨X.1, X.2.1, X.2.2.1, ⟨X.2.2.2.1.1, X.2.2.2.1.2.1, X.2.2.2.1.2.2.1, by rw [List.length_set]; exact X.2.2.2.1.2.2.2⟩, ?_, hS1⟩ hl hE
  rw [← rws_set]
  have e1 : ((fs.map (rv G)).set j (rv G (.ref x))) = (fs.set j (.ref x)).map (rv G) := by rw [List.map_set]
  rw [e1] at hP1
  exact hP1
theorem rv_iaload {a : Nat} {i : Int32} {F : Int32 → Option α} (hd : decode M.2.1 pc = .ok (.iaload, 1)) (h : (aI w a i).bind F = some res) (kk : ∀ x, F x = some res → rEvZ Z M d k n (pc + 1) l (.int x :: st) w Q) : rEvZ Z M d k n pc l (.int i :: .ref a :: st) w Q := by
  obtain ⟨x, hx, h⟩ := rBind h
  obtain ⟨N, f, hw, hi, rfl⟩ := aI_some hx
  intro p lau e R s m args below meth c G H locs cells slots mc ms ls Qm X hl hE
  refine va_iald X.1.1 X.1.2.1 X.2.2.2.1.1.1 X.2.2.2.2.1 a 0 (rws_at hw) rfl hi hd ?_
  exact kk _ h p lau e R s m args below meth c G H locs cells slots mc ms ls Qm X hl hE
theorem rv_laload {a : Nat} {i : Int32} {F : Int64 → Option α} (hd : decode M.2.1 pc = .ok (.laload, 1)) (h : (aJ w a i).bind F = some res) (kk : ∀ x, F x = some res → rEvZ Z M d k n (pc + 1) l (.long x :: st) w Q) : rEvZ Z M d k n pc l (.int i :: .ref a :: st) w Q := by
  obtain ⟨x, hx, h⟩ := rBind h
  obtain ⟨N, f, hw, hi, rfl⟩ := aJ_some hx
  intro p lau e R s m args below meth c G H locs cells slots mc ms ls Qm X hl hE
  refine va_lald X.1.1 X.1.2.1 X.2.2.2.1.1.1 X.2.2.2.2.1 a 1 (rws_at hw) rfl hi hd ?_
  exact kk _ h p lau e R s m args below meth c G H locs cells slots mc ms ls Qm X hl hE
theorem rv_aaload {a : Nat} {i : Int32} {F : Nat → Option α} (hd : decode M.2.1 pc = .ok (.aaload, 1)) (h : (aR w a i).bind F = some res) (kk : ∀ x, F x = some res → rEvZ Z M d k n (pc + 1) l (.ref x :: st) w Q) : rEvZ Z M d k n pc l (.int i :: .ref a :: st) w Q := by
  obtain ⟨x, hx, h⟩ := rBind h
  obtain ⟨N, f, hw, hi, hf⟩ := aR_some hx
  intro p lau e R s m args below meth c G H locs cells slots mc ms ls Qm X hl hE
  refine va_aldq X.1.1 X.1.2.1 X.2.2.2.1.1.1 X.2.2.2.2.1 a 2 (rws_at hw) rfl hi hd ?_
  show W _ _ _ _ _ _ _ _ _ _ _ _ _ _ _ (F0 m (pc + 1) ls (va_rf ((f i.toNatClampNeg).map (fun a => G.1 + a)) :: st.map (rv G)))
  rw [← hf]
  exact kk _ h p lau e R s m args below meth c G H locs cells slots mc ms ls Qm X hl hE
theorem rv_iastore {a : Nat} {i : Int32} {x : Int32} {F : rW → Option α} (hd : decode M.2.1 pc = .ok (.iastore, 1)) (h : (sI w a i x).bind F = some res) (kk : ∀ w2, F w2 = some res → rEvZ Z M d k n (pc + 1) l st w2 Q) : rEvZ Z M d k n pc l (.int x :: .int i :: .ref a :: st) w Q := by
  obtain ⟨w2, hx, h⟩ := rBind h
  obtain ⟨N, f, hw, hi, rfl⟩ := sI_some hx
  intro p lau e R s m args below meth c G H locs cells slots mc ms ls Qm X hl hE
  refine va_iast X.1.1 X.1.2.1 X.2.2.2.1.1.1 X.2.2.2.2.1 (rD G w) X.2.2.2.2.2 a 0 (rws_at hw) rfl hi hd (fun H1 locs1 hP1 _ hS1 => ?_)
  refine kk _ h p lau e R s m args below meth c G H1 locs1 cells slots mc ms ls Qm ⟨X.1, X.2.1, X.2.2.1, ⟨X.2.2.2.1.1, X.2.2.2.1.2.1, X.2.2.2.1.2.2.1, by rw [List.length_set]; exact X.2.2.2.1.2.2.2⟩, ?_, hS1⟩ hl hE
  rw [← rws_set]
  exact hP1
theorem rv_lastore {a : Nat} {i : Int32} {x : Int64} {F : rW → Option α} (hd : decode M.2.1 pc = .ok (.lastore, 1)) (h : (sJ w a i x).bind F = some res) (kk : ∀ w2, F w2 = some res → rEvZ Z M d k n (pc + 1) l st w2 Q) : rEvZ Z M d k n pc l (.long x :: .int i :: .ref a :: st) w Q := by
  obtain ⟨w2, hx, h⟩ := rBind h
  obtain ⟨N, f, hw, hi, rfl⟩ := sJ_some hx
  intro p lau e R s m args below meth c G H locs cells slots mc ms ls Qm X hl hE
  refine va_last X.1.1 X.1.2.1 X.2.2.2.1.1.1 X.2.2.2.2.1 (rD G w) X.2.2.2.2.2 a 1 (rws_at hw) rfl hi hd (fun H1 locs1 hP1 _ hS1 => ?_)
  refine kk _ h p lau e R s m args below meth c G H1 locs1 cells slots mc ms ls Qm ⟨X.1, X.2.1, X.2.2.1, ⟨X.2.2.2.1.1, X.2.2.2.1.2.1, X.2.2.2.1.2.2.1, by rw [List.length_set]; exact X.2.2.2.1.2.2.2⟩, ?_, hS1⟩ hl hE
  rw [← rws_set]
  exact hP1
theorem rv_aastore {a x : Nat} {i : Int32} {F : rW → Option α} (ci : Nat) (hci : (vwCl[ci]?).map (fun q => q.1) = some "TradedDesigns$Tape") (hd : decode M.2.1 pc = .ok (.aastore, 1)) (h : (sR w a i ci x).bind F = some res) (kk : ∀ w2, F w2 = some res → rEvZ Z M d k n (pc + 1) l st w2 Q) : rEvZ Z M d k n pc l (.ref x :: .int i :: .ref a :: st) w Q := by
  obtain ⟨w2, hx, h⟩ := rBind h
  obtain ⟨N, f, fs, hw, hv, hi, rfl⟩ := sR_some hx
  obtain ⟨q, hq, hq1⟩ := Option.map_eq_some_iff.mp hci
  intro p lau e R s m args below meth c G H locs cells slots mc ms ls Qm X hl hE
  refine va_astq (r := q) X.1.1 X.1.2.1 X.2.2.2.1.1.1 X.2.2.2.2.1 (rD G w) X.2.2.2.2.2 a 2 x ci (rws_at hw) (by rw [hq1]; rfl) (rws_at hv) hq hi hd (fun H1 locs1 hP1 _ hS1 => ?_)
  refine kk _ h p lau e R s m args below meth c G H1 locs1 cells slots mc ms ls Qm ⟨X.1, X.2.1, X.2.2.1, ⟨X.2.2.2.1.1, X.2.2.2.1.2.1, X.2.2.2.1.2.2.1, by rw [List.length_set]; exact X.2.2.2.1.2.2.2⟩, ?_, hS1⟩ hl hE
  rw [← rws_set]
  have e1 : va_up (fun j => (f j).map (fun a => G.1 + a)) i.toNatClampNeg (some (G.1 + x)) = fun j => (va_up f i.toNatClampNeg (some x) j).map (fun a => G.1 + a) := by
    funext j
    unfold va_up
    split <;> rfl
  rw [e1] at hP1
  exact hP1
theorem rv_alen {a : Nat} {F : Int32 → Option α} (hd : decode M.2.1 pc = .ok (.arraylength, 1)) (h : (aLen w a).bind F = some res) (kk : ∀ x, F x = some res → rEvZ Z M d k n (pc + 1) l (.int x :: st) w Q) : rEvZ Z M d k n pc l (.ref a :: st) w Q := by
  obtain ⟨x, hx, h⟩ := rBind h
  unfold aLen at hx
  intro p lau e R s m args below meth c G H locs cells slots mc ms ls Qm X hl hE
  split at hx
  · rename_i n0 f hw
    cases hx
    exact va_alen X.1.1 X.1.2.1 X.2.2.2.1.1.1 X.2.2.2.2.1 a 0 (rws_at hw) rfl rfl hd (kk _ h p lau e R s m args below meth c G H locs cells slots mc ms ls Qm X hl hE)
  · rename_i n0 f hw
    cases hx
    exact va_alen X.1.1 X.1.2.1 X.2.2.2.1.1.1 X.2.2.2.2.1 a 1 (rws_at hw) rfl rfl hd (kk _ h p lau e R s m args below meth c G H locs cells slots mc ms ls Qm X hl hE)
  · rename_i n0 f hw
    cases hx
    exact va_alen X.1.1 X.1.2.1 X.2.2.2.1.1.1 X.2.2.2.2.1 a 2 (rws_at hw) rfl rfl hd (kk _ h p lau e R s m args below meth c G H locs cells slots mc ms ls Qm X hl hE)
  · cases hx
/-- new: a cell of kind ci, all its fields empty -/
theorem rv_new {ix : Nat} {F : Nat × rW → Option α} (ci N : Nat) (fs : List Value) (C : String) (T : u_T) (ty : Nat → FieldType) (hc : vwCl[ci]? = some (C, T, N)) (hin : ∀ w ∈ u_ws C T N, w ∈ AW) (hty : ∀ j, j < N → parseFieldDescriptor (T j).2.2.1 = some (ty j)) (hcl : Cond.classLink M.1.cls ix C ∈ AW) (hib : Cond.instantiable C N ∈ AW) (hini : Cond.initialized C ∈ AW) (hfs : (List.range N).all (fun j => decide (defaultValue (ty j) = vp_V fs j)) = true) (hnr : fs.all (fun v => match v with | .ref _ => false | .float _ => false | _ => true) = true) (hd : decode M.2.1 pc = .ok (.new ix, 3)) (h : (nO' w ci fs).bind F = some res) (kk : ∀ (a : Nat) (w2 : rW), F (a, w2) = some res → rEvZ Z M d k n (pc + 3) l (.ref a :: st) w2 Q) : rEvZ Z M d (k + 1) (n + N) pc l st w Q := by
  obtain ⟨q0, hx, h⟩ := rBind h
  cases hx
  intro p lau e R s m args below meth c G H locs cells slots mc ms ls Qm X hl hE
  refine rW_size fun hle => ?_
  have hge := rSize (G := G) (Nat.le_trans X.2.2.2.1.2.2.1 X.2.2.2.2.2.1) X.2.2.2.2.1
  have hH : H.size = G.1 + w.length := by have := X.2.2.2.1.2.2.2; omega
  have hKn := X.2.2.2.1.1.1.1 ci _ hc
  refine W.newcK X.1.1 X.1.2.1 X.1.2.2.2.1 (X.1.2.2.2.2 _ hcl) (X.1.2.2.2.2 _ hib) (X.1.2.2.2.2 _ hini) rfl hd (by have := X.2.2.1; omega) (by have := X.2.2.1; omega) hKn.2.1 hH fun H1 kC hkC e1 z1 o1 => ?_
  rw [← hH] at o1
  have o1 : ∀ q : Nat, q < H.size → H1[q]? = H[q]? := o1
  refine kk _ _ h p lau e R s m args below meth c G H1 locs (cells + 1) (slots + N) mc ms ls Qm ⟨X.1, X.2.1, ⟨X.2.2.1.1, X.2.2.1.2.1, X.2.2.1.2.2.1, X.2.2.1.2.2.2.1, by have := X.2.2.1.2.2.2.2.1; omega, by have := X.2.2.1.2.2.2.2.2; omega⟩, ⟨X.2.2.2.1.1, X.2.2.2.1.2.1, X.2.2.2.1.2.2.1, by rw [List.length_append, List.length_singleton]; have := X.2.2.2.1.2.2.2; omega⟩, ?_, ⟨by have := X.2.2.2.2.2.1; omega, fun q h1 h2 => (o1 q (Nat.lt_of_lt_of_le h1 X.2.2.2.2.2.1)).trans (X.2.2.2.2.2.2.1 q h1 h2), X.2.2.2.2.2.2.2⟩⟩ hl hE
  rw [← rws_app]
  refine (va_P.kept X.2.2.2.2.1 (fun j q hj => o1 _ ((X.2.2.2.2.1 j q hj).lt))).app (fun j q hj => ?_)
  have hz : j < 1 := (List.getElem?_eq_some_iff.mp hj).1
  rw [show j = 0 by omega] at hj
  cases hj
  refine ⟨_, hc, (u_born ty X.1.2.2.2.2 hin hKn hkC e1 hty).to (fun j hj => ?_)⟩
  have h1 := of_decide_eq_true (List.all_eq_true.mp hfs j (List.mem_range.mpr hj))
  rw [h1]
  show fs.getD j .null = (fs.map (rv G)).getD j .null
  rw [List.getD_eq_getElem?_getD, List.getD_eq_getElem?_getD, List.getElem?_map]
  cases hq : fs[j]? with
  | none => rfl
  | some v =>
    have h2 := List.all_eq_true.mp hnr v (List.mem_of_getElem? hq)
    cases v <;> first | rfl | (cases h2)
theorem rv_newI {x : Int32} {b : Nat} {F : Nat × rW → Option α} (hb : b ≤ 4096) (hd : decode M.2.1 pc = .ok (.newarray .int, 2)) (h : (nI' w b x).bind F = some res) (kk : ∀ (a : Nat) (w2 : rW), F (a, w2) = some res → rEvZ Z M d k n (pc + 2) l (.ref a :: st) w2 Q) : rEvZ Z M d (k + 1) (n + b) pc l (.int x :: st) w Q := by
  obtain ⟨q0, hx, h⟩ := rBind h
  unfold nI' at hx
  split at hx
  · cases hx
  rename_i hx0
  simp only [not_or, Nat.not_lt] at hx0
  cases hx
  intro p lau e R s m args below meth c G H locs cells slots mc ms ls Qm X hl hE
  refine rW_size fun hle => ?_
  have hge := rSize (G := G) (Nat.le_trans X.2.2.2.1.2.2.1 X.2.2.2.2.2.1) X.2.2.2.2.1
  have hH : H.size = G.1 + w.length := by have := X.2.2.2.1.2.2.2; omega
  refine va_newaK X.1.1 X.1.2.1 (atype := .int) (X.1.2.2.2.2 _ ac_int) rfl hd rfl hx0.1 rfl (by show x.toNatClampNeg * _ ≤ _; simp only [newarray.typeOf, componentBytes]; omega) (by have := X.2.2.1; omega) (by have := X.2.2.1; omega) hH fun H1 cA e1 z1 o1 hAr hNm => ?_
  rw [← hH] at o1
  have hcA : cA = G.2.2.1.1 := Option.some.inj (hNm.symm.trans (X.2.2.2.1.1.1.2 0 _ rfl).2)
  refine kk _ _ h p lau e R s m args below meth c G H1 locs (cells + 1) (slots + x.toNatClampNeg) mc ms ls Qm ⟨X.1, X.2.1, ⟨X.2.2.1.1, X.2.2.1.2.1, X.2.2.1.2.2.1, X.2.2.1.2.2.2.1, by have := X.2.2.1.2.2.2.2.1; omega, by have := X.2.2.1.2.2.2.2.2; omega⟩, ⟨X.2.2.2.1.1, X.2.2.2.1.2.1, X.2.2.2.1.2.2.1, by rw [List.length_append, List.length_singleton]; have := X.2.2.2.1.2.2.2; omega⟩, ?_, ⟨by have := X.2.2.2.2.2.1; omega, fun q h1 h2 => (o1 q (Nat.lt_of_lt_of_le h1 X.2.2.2.2.2.1)).trans (X.2.2.2.2.2.2.1 q h1 h2), X.2.2.2.2.2.2.2⟩⟩ hl hE
  rw [← rws_app]
  refine (va_P.kept X.2.2.2.2.1 (fun j q hj => o1 _ ((X.2.2.2.2.1 j q hj).lt))).app (fun j q hj => ?_)
  have hz : j < 1 := (List.getElem?_eq_some_iff.mp hj).1
  rw [show j = 0 by omega] at hj
  cases hj
  show H1[G.1 + w.length]? = some (vp_cell _ _)
  rw [e1, hcA]
  rfl
theorem rv_newJ {x : Int32} {b : Nat} {F : Nat × rW → Option α} (hb : b ≤ 4096) (hd : decode M.2.1 pc = .ok (.newarray .long, 2)) (h : (nJ' w b x).bind F = some res) (kk : ∀ (a : Nat) (w2 : rW), F (a, w2) = some res → rEvZ Z M d k n (pc + 2) l (.ref a :: st) w2 Q) : rEvZ Z M d (k + 1) (n + b) pc l (.int x :: st) w Q := by
  obtain ⟨q0, hx, h⟩ := rBind h
  unfold nJ' at hx
  split at hx
  · cases hx
  rename_i hx0
  simp only [not_or, Nat.not_lt] at hx0
  cases hx
  intro p lau e R s m args below meth c G H locs cells slots mc ms ls Qm X hl hE
  refine rW_size fun hle => ?_
  have hge := rSize (G := G) (Nat.le_trans X.2.2.2.1.2.2.1 X.2.2.2.2.2.1) X.2.2.2.2.1
  have hH : H.size = G.1 + w.length := by have := X.2.2.2.1.2.2.2; omega
  refine va_newaK X.1.1 X.1.2.1 (atype := .long) (X.1.2.2.2.2 _ ac_long) rfl hd rfl hx0.1 rfl (by show x.toNatClampNeg * _ ≤ _; simp only [newarray.typeOf, componentBytes]; omega) (by have := X.2.2.1; omega) (by have := X.2.2.1; omega) hH fun H1 cA e1 z1 o1 hAr hNm => ?_
  rw [← hH] at o1
  have hcA : cA = G.2.2.1.2.1 := Option.some.inj (hNm.symm.trans (X.2.2.2.1.1.1.2 1 _ rfl).2)
  refine kk _ _ h p lau e R s m args below meth c G H1 locs (cells + 1) (slots + x.toNatClampNeg) mc ms ls Qm ⟨X.1, X.2.1, ⟨X.2.2.1.1, X.2.2.1.2.1, X.2.2.1.2.2.1, X.2.2.1.2.2.2.1, by have := X.2.2.1.2.2.2.2.1; omega, by have := X.2.2.1.2.2.2.2.2; omega⟩, ⟨X.2.2.2.1.1, X.2.2.2.1.2.1, X.2.2.2.1.2.2.1, by rw [List.length_append, List.length_singleton]; have := X.2.2.2.1.2.2.2; omega⟩, ?_, ⟨by have := X.2.2.2.2.2.1; omega, fun q h1 h2 => (o1 q (Nat.lt_of_lt_of_le h1 X.2.2.2.2.2.1)).trans (X.2.2.2.2.2.2.1 q h1 h2), X.2.2.2.2.2.2.2⟩⟩ hl hE
  rw [← rws_app]
  refine (va_P.kept X.2.2.2.2.1 (fun j q hj => o1 _ ((X.2.2.2.2.1 j q hj).lt))).app (fun j q hj => ?_)
  have hz : j < 1 := (List.getElem?_eq_some_iff.mp hj).1
  rw [show j = 0 by omega] at hj
  cases hj
  show H1[G.1 + w.length]? = some (vp_cell _ _)
  rw [e1, hcA]
  rfl
theorem rv_newR {x : Int32} {b ix : Nat} {F : Nat × rW → Option α} (hb : b ≤ 4096) (hcl : Cond.classLink M.1.cls ix "TradedDesigns$Tape" ∈ AW) (hd : decode M.2.1 pc = .ok (.anewarray ix, 3)) (h : (nR' w b x).bind F = some res) (kk : ∀ (a : Nat) (w2 : rW), F (a, w2) = some res → rEvZ Z M d k n (pc + 3) l (.ref a :: st) w2 Q) : rEvZ Z M d (k + 1) (n + b) pc l (.int x :: st) w Q := by
  obtain ⟨q0, hx, h⟩ := rBind h
  unfold nR' at hx
  split at hx
  · cases hx
  rename_i hx0
  simp only [not_or, Nat.not_lt] at hx0
  cases hx
  intro p lau e R s m args below meth c G H locs cells slots mc ms ls Qm X hl hE
  refine rW_size fun hle => ?_
  have hge := rSize (G := G) (Nat.le_trans X.2.2.2.1.2.2.1 X.2.2.2.2.2.1) X.2.2.2.2.1
  have hH : H.size = G.1 + w.length := by have := X.2.2.2.1.2.2.2; omega
  refine W.anew X.1.1 X.1.2.1 X.1.2.2.2.1 (X.1.2.2.2.2 _ hcl) (va_AO.use X.2.2.2.1.1.2.2.1) rfl hd rfl hx0.1 (by omega) (by have := X.2.2.1; omega) (by have := X.2.2.1; omega) fun cA kA comp f1 f2 f3 f4 => ?_
  generalize hH1 : H.push ({ cls := cA, slots := Array.replicate x.toNatClampNeg .null, vm := .none } : Cell) = H1
  have z1 : H1.size = H.size + 1 := by rw [← hH1, Array.size_push]
  have e1 : H1[H.size]? = some (arrV cA x.toNatClampNeg (fun _ => .null)) := by rw [← hH1, Array.getElem?_push_size, ← arrV_new]
  have o1 : ∀ q : Nat, q < H.size → H1[q]? = H[q]? := fun q hq => by rw [← hH1, Array.getElem?_push, if_neg (Nat.ne_of_lt hq)]
  have hcA : cA = G.2.2.1.2.2 := by
    obtain ⟨-, k9, c9, g1, g2, g3, g4⟩ := X.2.2.2.1.1.1.2 2 _ rfl
    exact Option.some.inj (f1.symm.trans g4)
  rw [hH]
  refine kk _ _ h p lau e R s m args below meth c G H1 locs (cells + 1) (slots + x.toNatClampNeg) mc ms ls Qm ⟨X.1, X.2.1, ⟨X.2.2.1.1, X.2.2.1.2.1, X.2.2.1.2.2.1, X.2.2.1.2.2.2.1, by have := X.2.2.1.2.2.2.2.1; omega, by have := X.2.2.1.2.2.2.2.2; omega⟩, ⟨X.2.2.2.1.1, X.2.2.2.1.2.1, X.2.2.2.1.2.2.1, by rw [List.length_append, List.length_singleton]; have := X.2.2.2.1.2.2.2; omega⟩, ?_, ⟨by have := X.2.2.2.2.2.1; omega, fun q h1 h2 => (o1 q (Nat.lt_of_lt_of_le h1 X.2.2.2.2.2.1)).trans (X.2.2.2.2.2.2.1 q h1 h2), X.2.2.2.2.2.2.2⟩⟩ hl hE
  rw [← rws_app]
  refine (va_P.kept X.2.2.2.2.1 (fun j q hj => o1 _ ((X.2.2.2.2.1 j q hj).lt))).app (fun j q hj => ?_)
  have hz : j < 1 := (List.getElem?_eq_some_iff.mp hj).1
  rw [show j = 0 by omega] at hj
  cases hj
  show H1[G.1 + w.length]? = some (vp_cell _ _)
  rw [← hH, e1, hcA]
  rfl
end RULES

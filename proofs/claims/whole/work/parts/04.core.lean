/-! THE LIGHT JUDGEMENT. An abstract world: a list of cells; a reference is a place in that list (its machine address: base + place); .float u stands for a constant of the machine (a text, its bytes). -/
abbrev rCl : Type := (Nat × (Nat → Int32)) ⊕ (Nat × (Nat → Int64)) ⊕ (Nat × (Nat → Option Nat)) ⊕ (Nat × List Value)
abbrev rW : Type := List rCl
abbrev cI (n : Nat) (f : Nat → Int32) : rCl := .inl (n, f)
abbrev cJ (n : Nat) (f : Nat → Int64) : rCl := .inr (.inl (n, f))
abbrev cR (n : Nat) (f : Nat → Option Nat) : rCl := .inr (.inr (.inl (n, f)))
abbrev cO (k : Nat) (fs : List Value) : rCl := .inr (.inr (.inr (k, fs)))
/-- base; the tables' numbers; the three row classes; the constants' addresses -/
abbrev rG : Type := Nat × va_G × (ClassId × ClassId × ClassId) × (Nat → Nat)
def rv (G : rG) : Value → Value
  | .ref a => .ref (G.1 + a)
  | .float u => .ref (G.2.2.2 u.toNat)
  | .int x => .int x
  | .long x => .long x
  | .double x => .double x
  | .null => .null
  | .retAddr x => .retAddr x
theorem rv_cat (G : rG) (v : Value) : (rv G v).category = v.category := by cases v <;> rfl
def rE (G : rG) : rCl → va_E
  | .inl (n, f) => .inl (G.2.2.1.1, n, .inl f)
  | .inr (.inl (n, f)) => .inl (G.2.2.1.2.1, n, .inr (.inl f))
  | .inr (.inr (.inl (n, f))) => .inl (G.2.2.1.2.2, n, .inr (.inr (.inr (.inr (fun j => (f j).map (fun a => G.1 + a))))))
  | .inr (.inr (.inr (k, fs))) => .inr (k, fs.map (rv G))
def rws (G : rG) (w : rW) : va_W := w.mapIdx (fun i c => (G.1 + i, rE G c))
theorem rws_get (G : rG) (w : rW) (i : Nat) : (rws G w)[i]? = (w[i]?).map (fun c => (G.1 + i, rE G c)) := by simp [rws]
theorem rws_at {G : rG} {w : rW} {i : Nat} {c : rCl} (h : w[i]? = some c) : (rws G w)[i]? = some (G.1 + i, rE G c) := by rw [rws_get, h]; rfl
theorem rws_set (G : rG) (w : rW) (i : Nat) (c : rCl) : (rws G w).set i (G.1 + i, rE G c) = rws G (w.set i c) := by
  apply List.ext_getElem?
  intro j
  rw [rws_get, List.getElem?_set, List.getElem?_set]
  by_cases hij : i = j
  · subst hij
    simp only [if_true]
    have : (rws G w).length = w.length := by simp [rws]
    rw [this]
    by_cases hl : i < w.length <;> simp [hl]
  · simp only [if_neg hij, rws_get]
theorem rws_app (G : rG) (w : rW) (c : rCl) : rws G w ++ [(G.1 + w.length, rE G c)] = rws G (w ++ [c]) := by simp [rws, List.mapIdx_append]
def rA (G : rG) : Nat → Prop := fun q => G.1 ≤ q
theorem rD (G : rG) (w : rW) : va_D (rA G) (rws G w) := by
  have key : ∀ (i : Nat) (p : Nat × va_E), (rws G w)[i]? = some p → p.1 = G.1 + i := by
    intro i p h
    rw [rws_get] at h
    cases hw : w[i]? with
    | none => rw [hw] at h; cases h
    | some c => rw [hw] at h; cases h; rfl
  refine ⟨fun i j p q hp hq hpq => ?_, fun i p hp => ?_⟩
  · have h1 := key i p hp
    have h2 := key j q hq
    omega
  · have h1 := key i p hp
    show G.1 ≤ p.1
    omega
theorem rSize {G : rG} {w : rW} {D : va_G} {cl : List vw_C} {H : Heap} (h0 : G.1 ≤ H.size) (hP : va_P D cl (rws G w) H) : G.1 + w.length ≤ H.size := by
  rcases Nat.eq_zero_or_pos w.length with h | h
  · omega
  · obtain ⟨c, hc⟩ : ∃ c, w[w.length - 1]? = some c := ⟨_, List.getElem?_eq_getElem (by omega)⟩
    have h1 := (hP _ _ (rws_at (G := G) hc)).lt
    have h2 : G.1 + (w.length - 1) < H.size := h1
    omega
/-- a method: its name, its code, its locals, its answer's type -/
abbrev rM : Type := MethodName × ByteArray × Nat × Option FieldType
abbrev rTys (G : rG) : List (ClassId × FieldType) := [(G.2.2.1.1, .int), (G.2.2.1.2.1, .long), (G.2.2.1.2.2, .object "TradedDesigns$Tape")]
/-- calls of a nest mate's private methods; the texts: whose pool, which place, which -/
def rNest : List (String × Nat × MethodName × String) := [(RX6, 9, yX0_init, "TradedDesigns"), (RX9, 40, yX8_init, "TradedDesigns"), (RX9, 47, yX1_init, "TradedDesigns"), (RX1, 9, yX8_init, "TradedDesigns"), (RX9, 54, yX2_init, "TradedDesigns"), (RX9, 61, yX4_init, "TradedDesigns"), (RX9, 72, yX7_init, "TradedDesigns"), (RX5, 59, yX9_isCount, "TradedDesigns"), (RX5, 62, yX9_isIn, "TradedDesigns"), (RX5, 69, yX9_withPlacesExchanged, "TradedDesigns"), (RX1, 71, yX9_isIn, "TradedDesigns")]
def rTexts : List (String × Nat × String × Nat) := [(RX4, 69, "size", 0), (RX4, 71, "count", 1), (RX4, 73, "twist", 2), (RX4, 75, "put", 3), (RX4, 77, "turn", 4), (RX4, 79, "swap", 5), (RX4, 81, "keep", 6), (RX4, 83, "differ", 7), (RX10, 215, "wap", 8), (RX10, 221, "ize", 9), (RX10, 223, "count", 1), (RX10, 225, "wist", 10), (RX10, 227, "urn", 11), (RX10, 229, "put", 3), (RX10, 231, "keep", 6), (RX10, 233, "differ", 7)]
def rTxN : Nat := 12
def rTxLen : List Nat := [4, 5, 5, 3, 4, 4, 4, 6, 3, 3, 4, 3]
def rTxByt : List (List Int32) := [[115, 105, 122, 101], [99, 111, 117, 110, 116], [116, 119, 105, 115, 116], [112, 117, 116], [116, 117, 114, 110], [115, 119, 97, 112], [107, 101, 101, 112], [100, 105, 102, 102, 101, 114], [119, 97, 112], [105, 122, 101], [119, 105, 115, 116], [117, 114, 110]]
/-- what the tables say, wherever the machine stands -/
def rK (G : rG) (U : State) : Prop := va_K G.2.1 vwCl (rTys G) U ∧ (∀ q ∈ rNest, va_Nw (.methodLinkNest q.1 q.2.1 q.2.2.1 q.2.2.2) U) ∧ va_AO "TradedDesigns$Tape" U ∧ (∀ q ∈ rTexts, vk_R q.1 q.2.1 q.2.2.1 (G.2.2.2 q.2.2.2) U)
def rXL (G : rG) : Nat := G.2.2.2 7001
def rXs (G : rG) (j : Nat) : Int32 := (UInt32.ofNat (G.2.2.2 (8000 + j))).toInt32
/-- what the constants' cells hold, and the script's -/
def rS (G : rG) (U : State) (H : Heap) : Prop := vk_S rTxN rTxLen rTxByt G.2.2.2 (fun i => G.2.2.2 (1000 + i)) (rA G) U H ∧ va_Z "java/lang/String" "COMPACT_STRINGS" "Z" (.int 1) (rA G) U H ∧ (va_Z "jdk/internal/util/Preconditions" "SIOOBE_FORMATTER" "Ljava/util/function/BiFunction;" .null (rA G) U H ∨ va_Z "jdk/internal/util/Preconditions" "SIOOBE_FORMATTER" "Ljava/util/function/BiFunction;" (.ref (G.2.2.2 5000)) (rA G) U H) ∧ (va_X (G.2.2.2 7000) (rXL G) (rXs G) U H ∧ G.2.2.2 7000 < G.1)
theorem rK.warm {G : rG} {s U : State} (hW : s.WarmedH U.vm) (h : rK G s) : rK G U := ⟨va_K.moved hW.alike h.1, fun q hq => va_Nw.warmM hW (h.2.1 q hq), va_AO.moved hW.alike h.2.2.1, fun q hq => vk_R.warm hW (h.2.2.2 q hq)⟩
theorem rK.same {G : rG} {u U : State} (hv : u.vm = U.vm) (h : rK G u) : rK G U := by
  refine ⟨va_K.moved (by rw [hv]; exact Vm.Alike.refl _) h.1, fun q hq => va_Nw.same rfl hv (h.2.1 q hq), va_AO.moved (by rw [hv]; exact Vm.Alike.refl _) h.2.2.1, fun q hq => vk_R.same hv.symm (h.2.2.2 q hq)⟩
theorem rS.moved {G : rG} {s U : State} {H : Heap} (hv : s.vm.Alike U.vm) (h : rS G s H) : rS G U H := ⟨vk_S.moved hv h.1, va_Z.moved hv h.2.1, h.2.2.1.imp (va_Z.moved hv) (va_Z.moved hv), h.2.2.2.1.moved hv, h.2.2.2.2⟩
theorem rS.kept {G : rG} {U : State} {H H1 : Heap} (h : rS G U H) (hq : ∀ a : Nat, a < H.size → ¬ rA G a → H1[a]? = H[a]?) : rS G U H1 := ⟨vk_S.kept h.1 hq, va_Z.kept h.2.1 hq, h.2.2.1.imp (fun h => va_Z.kept h hq) (fun h => va_Z.kept h hq), h.2.2.2.1.kept (hq _ (by obtain ⟨scr, h1, -⟩ := h.2.2.2.1; exact (Array.getElem?_eq_some_iff.mp h1).1) (Nat.not_le.mpr h.2.2.2.2)), h.2.2.2.2⟩
/-- a method's frame: d levels below it, k cells and n slots still to be made -/
def rX (Z : rG → Prop) (M : rM) (d k n : Nat) (p : Program) (R : Room) (s : State) (m : MethodId) (args : Array Value) (meth : Method) (c : Code) (G : rG) (H : Heap) (locs : List Loc) (cells slots mc ms : Nat) (w : rW) : Prop :=
  (p.tables.exec = Jvm.exec ∧ c.code = M.2.1 ∧ c.maxLocals = M.2.2.1 ∧ s.vm.findClass M.1.cls = some m.cls ∧ (∀ w ∈ AW, w.before args s = true)) ∧
  (meth.sig.returnType = M.2.2.2 ∧ meth.locks = false ∧ (M.1.name = "<init>" → meth.name = "<init>") ∧ Z G) ∧ (8 * d ≤ R.frames ∧ 400 * d ≤ R.locals ∧ mc ≤ R.cells ∧ ms ≤ R.slots ∧ cells + k = mc ∧ slots + n ≤ ms) ∧
  (rK G s ∧ rS G s s.heap ∧ G.1 ≤ s.heap.size ∧ s.heap.size + cells = G.1 + w.length) ∧ va_P G.2.1 vwCl (rws G w) H ∧ va_S (rA G) s.heap H locs
abbrev rl (G : rG) (l : List (Nat × Value)) : List (Nat × Value) := l.map (fun q => (q.1, rv G q.2))
/-- the ways out -/
def rRet (code : ByteArray) (ret : Option FieldType) (pc : Nat) (r : Option Value) : Prop :=
  (∃ (x : Int32) (ty : FieldType), r = some (.int x) ∧ ret = some ty ∧ narrow ty (.int x) = .int x ∧ decode code pc = .ok (.ireturn, 1)) ∨
  (∃ x : Int64, r = some (.long x) ∧ ret = some .long ∧ decode code pc = .ok (.lreturn, 1)) ∨
  (r = none ∧ ret = none ∧ decode code pc = .ok (.return_, 1)) ∨
  (∃ (u : UInt32) (c : String), r = some (.float u) ∧ ret = some (.object c) ∧ decode code pc = .ok (.areturn, 1))
def rEnd (Z : rG → Prop) (M : rM) (Q : Option Value → rW → Prop) (p : Program) (lau : Launch) (e : Env) (R : Room) (s : State) (m : MethodId) (args : Array Value) (below : List Frame) (meth : Method) (c : Code) (G : rG) (mc ms : Nat) (Qm : State → Prop) : Prop :=
  ∀ (r : Option Value) (w : rW) (H : Heap) (locs : List Loc) (cells slots pc : Nat) (ls : Array Slot), Q r w → rX Z M 0 0 0 p R s m args meth c G H locs cells slots mc ms w → rRet M.2.1 M.2.2.2 pc r →
    W p lau e R s m args below meth c H locs cells slots Qm (F0 m pc ls ((r.map (rv G)).toList))
def rEvZ (Z : rG → Prop) (M : rM) (d k n : Nat) (pc : Nat) (l : List (Nat × Value)) (st : List Value) (w : rW) (Q : Option Value → rW → Prop) : Prop :=
  ∀ (p : Program) (lau : Launch) (e : Env) (R : Room) (s : State) (m : MethodId) (args : Array Value) (below : List Frame) (meth : Method) (c : Code) (G : rG) (H : Heap) (locs : List Loc) (cells slots mc ms : Nat) (ls : Array Slot) (Qm : State → Prop),
    rX Z M d k n p R s m args meth c G H locs cells slots mc ms w → lv_has ls M.2.2.1 (rl G l) → rEnd Z M Q p lau e R s m args below meth c G mc ms Qm →
    W p lau e R s m args below meth c H locs cells slots Qm (F0 m pc ls (st.map (rv G)))
def rT (_ : rG) : Prop := True
abbrev rEv (M : rM) (d k n : Nat) (pc : Nat) (l : List (Nat × Value)) (st : List Value) (w : rW) (Q : Option Value → rW → Prop) : Prop := rEvZ rT M d k n pc l st w Q
/-- a contract -/
def rPc (G : rG) (w : rW) (U : State) : Prop := rK G U ∧ rS G U U.heap ∧ U.heap.size = G.1 + w.length ∧ va_P G.2.1 vwCl (rws G w) U.heap
def rQc (G : rG) (k : Nat) (w : rW) (Q : Option Value → rW → Prop) : Array Value → State → Outcome → State → Prop := fun _ st oc t =>
  (∃ (r : Option Value) (w' : rW), oc = .returned (r.map (rv G)) ∧ Q r w' ∧ va_P G.2.1 vwCl (rws G w') t.heap ∧ w'.length = w.length + k) ∧ va_F (rA G) st t
abbrev rRm (d k n : Nat) : Room := { frames := 8 * d, cells := k, slots := n, locals := 400 * d }
abbrev rWs (M : rM) : List Cond := .code M.1 M.2.1 M.2.2.1 M.2.2.2 :: AW
def rMet (M : rM) (d k n : Nat) (vs : List Value) (w : rW) (Q : Option Value → rW → Prop) : Prop :=
  ∀ (lau : Launch) (G : rG), Met lau M.1 (rWs M) (rRm d k n) (va_Pc (vs.map (rv G)) (rPc G w)) (rQc G k w Q) k n (rA G)
theorem lg_sl_rv (G : rG) : ∀ vs : List Value, (lg_sl (vs.map (rv G))).length = (lg_sl vs).length := by
  intro vs
  induction vs with
  | nil => rfl
  | cons v t ih =>
    simp only [lg_sl, List.map_cons, List.flatMap_cons, List.length_append, rv_cat] at ih ⊢
    rw [ih]
    split <;> rfl
theorem lv_args_rv (G : rG) : ∀ (vs : List Value) (i : Nat), lv_args i (vs.map (rv G)) = rl G (lv_args i vs) := by
  intro vs
  induction vs with
  | nil => intro i; rfl
  | cons v t ih =>
    intro i
    simp only [List.map_cons, lv_args, rv_cat, ih]
/-- out of the walk of its body -/
theorem rMet_of {M : rM} {d k n : Nat} {vs : List Value} {w : rW} {Q : Option Value → rW → Prop} (hpl : plainName M.1.cls = true) (hlen : Nat.ble (lg_sl vs).length M.2.2.1 = true) (h : rEv M d k n 0 (lv_args 0 vs) [] w Q) : rMet M d k n vs w Q := by
  intro lau G
  refine Met.ofW (cc := M.2.1) (maxL := M.2.2.1) (ret := M.2.2.2) hpl rfl ?_
  intro p e s m args below meth c s₁ B hml hv
  obtain ⟨rfl, hK, hSt, hsz, hP⟩ := hv
  have hts := atoms_spec (ws := rWs M) B.pre
  rw [lg_entry_eq]
  have hl := lv_entry (vs.map (rv G)) (n := M.2.2.1) (by rw [lg_sl_rv]; exact Nat.le_of_ble_eq_true hlen)
  rw [lv_args_rv] at hl
  refine h p lau e _ s m _ below meth c G s.heap [] 0 0 k n _ _ ⟨⟨B.exec, B.bytes, hml, findClass_of_methodNamed B.named, fun w hw => hts w (List.mem_cons_of_mem _ hw)⟩, ⟨B.returns, B.notSynchronized, fun h => (name_of_methodNamed B.named B.method).1.trans h, trivial⟩, ⟨Nat.le_refl _, Nat.le_refl _, Nat.le_refl _, Nat.le_refl _, by omega, by omega⟩, ⟨hK, hSt, by omega, by omega⟩, hP, va_S.rf⟩ hl ?_
  intro r w' H locs cells slots pc ls hQ X hr
  obtain ⟨⟨hx, hb, -, -, -⟩, ⟨hrt, hlk, -⟩, ⟨-, -, -, -, hc, hs⟩, ⟨-, -, -, hlen'⟩, hP', hS'⟩ := X
  have hpost : ∀ t : State, t.heap = H → rQc G k w Q ((vs.map (rv G)).toArray) s (.returned (r.map (rv G))) t := fun t ht => ⟨⟨r, w', rfl, hQ, by rw [ht]; exact hP', by omega⟩, hS'.F ht⟩
  refine W.widen (k := k) (n := n) (by omega) (by omega) ?_
  rcases hr with ⟨x, ty, rfl, h2, h3, h4⟩ | ⟨x, rfl, h2, h4⟩ | ⟨rfl, h2, h4⟩ | ⟨u, cn, rfl, h2, h4⟩
  · exact W.zret hx hb (hrt.trans h2) h3 (fun t ht _ => hpost t ht) hS'.2.2 h4 hlk
  · exact W.lret hx hb (hrt.trans h2) (fun t ht _ => hpost t ht) hS'.2.2 h4 hlk
  · exact W.vret hx hb (hrt.trans h2) (fun t ht _ => hpost t ht) hS'.2.2 h4 hlk
  · exact W.aret hx hb (hrt.trans h2) (Or.inl ⟨_, rfl⟩) (Or.inr ⟨_, rfl⟩) (fun t ht _ => hpost t ht) hS'.2.2 h4 hlk
section RULES
variable {Z : rG → Prop} {M : rM} {d k n pc : Nat} {l : List (Nat × Value)} {st : List Value} {w : rW} {Q : Option Value → rW → Prop}
theorem rv_eq {pc2 : Nat} (h : pc = pc2) (kk : rEvZ Z M d k n pc2 l st w Q) : rEvZ Z M d k n pc l st w Q := h ▸ kk
theorem rv_mono {Q2 : Option Value → rW → Prop} (kk : rEvZ Z M d k n pc l st w Q2) (h : ∀ r w', Q2 r w' → Q r w') : rEvZ Z M d k n pc l st w Q :=
  fun p lau e R s m args below meth c G H locs cells slots mc ms ls Qm X hl hE => kk p lau e R s m args below meth c G H locs cells slots mc ms ls Qm X hl (fun r w H locs cells slots pc ls hQ => hE r w H locs cells slots pc ls (h r w hQ))
theorem rv_sub {l' : List (Nat × Value)} (ks : List Nat) (hl : lv_pick l ks = l') (kk : rEvZ Z M d k n pc l' st w Q) : rEvZ Z M d k n pc l st w Q := by
  intro p lau e R s m args below meth c G H locs cells slots mc ms ls Qm X hh hE
  refine kk p lau e R s m args below meth c G H locs cells slots mc ms ls Qm X (lv_sub hh ks ?_) hE
  subst hl
  simp only [lv_pick, rl, List.map_filterMap, List.getElem?_map]
theorem rl_at {G : rG} {i j : Nat} {v : Value} (h : l[i]? = some (j, v)) : (rl G l)[i]? = some (j, rv G v) := by rw [List.getElem?_map, h]; rfl
theorem rl_st {G : rG} {j : Nat} {v : Value} {l' : List (Nat × Value)} (h : (j, v) :: l.filter (fun q => !(q.1 == j) && !(q.1 + 1 == j && q.2.category == 2)) = l') : (j, rv G v) :: (rl G l).filter (fun q => !(q.1 == j) && !(q.1 + 1 == j && q.2.category == 2)) = rl G l' := by
  subst h
  simp only [rl, List.map_cons, List.filter_map]
  congr 3
  funext q
  simp [rv_cat]
theorem rl_st2 {G : rG} {j : Nat} {v : Value} {l' : List (Nat × Value)} (h : (j, v) :: l.filter (fun q => !(q.1 == j) && (!(q.1 == j + 1) && !(q.1 + 1 == j && q.2.category == 2))) = l') : (j, rv G v) :: (rl G l).filter (fun q => !(q.1 == j) && (!(q.1 == j + 1) && !(q.1 + 1 == j && q.2.category == 2))) = rl G l' := by
  subst h
  simp only [rl, List.map_cons, List.filter_map]
  congr 3
  funext q
  simp [rv_cat]
theorem rW_size {p : Program} {lau : Launch} {e : Env} {R : Room} {s : State} {m : MethodId} {args : Array Value} {below : List Frame} {meth : Method} {c : Code} {H : Heap} {locs : List Loc} {cells slots : Nat} {Qm : State → Prop} {g : JFrame} (kk : H.size ≤ s.heap.size + cells → W p lau e R s m args below meth c H locs cells slots Qm g) : W p lau e R s m args below meth c H locs cells slots Qm g :=
  fun T hT X => kk (by rw [← hT]; exact X.heapSize) T hT X
theorem rv_iconst {z : Int} {v : Int32} (hd : decode M.2.1 pc = .ok (.iconst z, 1)) (hv : Int32.ofInt z = v) (kk : rEvZ Z M d k n (pc + 1) l (.int v :: st) w Q) : rEvZ Z M d k n pc l (st) w Q := by
  intro p lau e R s m args below meth c G H locs cells slots mc ms ls Qm X hl hE
  exact lv_iconst X.1.1 X.1.2.1  hd hv (kk p lau e R s m args below meth c G H locs cells slots mc ms ls Qm X hl hE)
theorem rv_bipush {z : Int} {v : Int32} (hd : decode M.2.1 pc = .ok (.bipush z, 2)) (hv : (Int8.ofInt z).toInt32 = v) (kk : rEvZ Z M d k n (pc + 2) l (.int v :: st) w Q) : rEvZ Z M d k n pc l (st) w Q := by
  intro p lau e R s m args below meth c G H locs cells slots mc ms ls Qm X hl hE
  exact lv_bipush X.1.1 X.1.2.1  hd hv (kk p lau e R s m args below meth c G H locs cells slots mc ms ls Qm X hl hE)
theorem rv_sipush {z : Int} {v : Int32} (hd : decode M.2.1 pc = .ok (.sipush z, 3)) (hv : (Int16.ofInt z).toInt32 = v) (kk : rEvZ Z M d k n (pc + 3) l (.int v :: st) w Q) : rEvZ Z M d k n pc l (st) w Q := by
  intro p lau e R s m args below meth c G H locs cells slots mc ms ls Qm X hl hE
  exact lv_sipush X.1.1 X.1.2.1  hd hv (kk p lau e R s m args below meth c G H locs cells slots mc ms ls Qm X hl hE)
theorem rv_lconst {z : Fin 2} {v : Int64} (hd : decode M.2.1 pc = .ok (.lconst z, 1)) (hv : Int64.ofNat (z : Nat) = v) (kk : rEvZ Z M d k n (pc + 1) l (.long v :: st) w Q) : rEvZ Z M d k n pc l (st) w Q := by
  intro p lau e R s m args below meth c G H locs cells slots mc ms ls Qm X hl hE
  exact lv_lconst X.1.1 X.1.2.1  hd hv (kk p lau e R s m args below meth c G H locs cells slots mc ms ls Qm X hl hE)
theorem rv_iadd {x y : Int32} (hd : decode M.2.1 pc = .ok (.iadd, 1)) (kk : rEvZ Z M d k n (pc + 1) l (.int (x + y) :: st) w Q) : rEvZ Z M d k n pc l (.int y :: .int x :: st) w Q := by
  intro p lau e R s m args below meth c G H locs cells slots mc ms ls Qm X hl hE
  exact lv_iadd X.1.1 X.1.2.1  hd  (kk p lau e R s m args below meth c G H locs cells slots mc ms ls Qm X hl hE)
theorem rv_isub {x y : Int32} (hd : decode M.2.1 pc = .ok (.isub, 1)) (kk : rEvZ Z M d k n (pc + 1) l (.int (x - y) :: st) w Q) : rEvZ Z M d k n pc l (.int y :: .int x :: st) w Q := by
  intro p lau e R s m args below meth c G H locs cells slots mc ms ls Qm X hl hE
  exact lv_isub X.1.1 X.1.2.1  hd  (kk p lau e R s m args below meth c G H locs cells slots mc ms ls Qm X hl hE)
theorem rv_imul {x y : Int32} (hd : decode M.2.1 pc = .ok (.imul, 1)) (kk : rEvZ Z M d k n (pc + 1) l (.int (x * y) :: st) w Q) : rEvZ Z M d k n pc l (.int y :: .int x :: st) w Q := by
  intro p lau e R s m args below meth c G H locs cells slots mc ms ls Qm X hl hE
  exact lv_imul X.1.1 X.1.2.1  hd  (kk p lau e R s m args below meth c G H locs cells slots mc ms ls Qm X hl hE)
theorem rv_iand {x y : Int32} (hd : decode M.2.1 pc = .ok (.iand, 1)) (kk : rEvZ Z M d k n (pc + 1) l (.int (x &&& y) :: st) w Q) : rEvZ Z M d k n pc l (.int y :: .int x :: st) w Q := by
  intro p lau e R s m args below meth c G H locs cells slots mc ms ls Qm X hl hE
  exact lv_iand X.1.1 X.1.2.1  hd  (kk p lau e R s m args below meth c G H locs cells slots mc ms ls Qm X hl hE)
theorem rv_ior {x y : Int32} (hd : decode M.2.1 pc = .ok (.ior, 1)) (kk : rEvZ Z M d k n (pc + 1) l (.int (x ||| y) :: st) w Q) : rEvZ Z M d k n pc l (.int y :: .int x :: st) w Q := by
  intro p lau e R s m args below meth c G H locs cells slots mc ms ls Qm X hl hE
  exact lv_ior X.1.1 X.1.2.1  hd  (kk p lau e R s m args below meth c G H locs cells slots mc ms ls Qm X hl hE)
theorem rv_ixor {x y : Int32} (hd : decode M.2.1 pc = .ok (.ixor, 1)) (kk : rEvZ Z M d k n (pc + 1) l (.int (x ^^^ y) :: st) w Q) : rEvZ Z M d k n pc l (.int y :: .int x :: st) w Q := by
  intro p lau e R s m args below meth c G H locs cells slots mc ms ls Qm X hl hE
  exact lv_ixor X.1.1 X.1.2.1  hd  (kk p lau e R s m args below meth c G H locs cells slots mc ms ls Qm X hl hE)
theorem rv_ishl {x y : Int32} (hd : decode M.2.1 pc = .ok (.ishl, 1)) (kk : rEvZ Z M d k n (pc + 1) l (.int (x <<< (y &&& 31)) :: st) w Q) : rEvZ Z M d k n pc l (.int y :: .int x :: st) w Q := by
  intro p lau e R s m args below meth c G H locs cells slots mc ms ls Qm X hl hE
  exact lv_ishl X.1.1 X.1.2.1  hd  (kk p lau e R s m args below meth c G H locs cells slots mc ms ls Qm X hl hE)
theorem rv_ishr {x y : Int32} (hd : decode M.2.1 pc = .ok (.ishr, 1)) (kk : rEvZ Z M d k n (pc + 1) l (.int (x >>> (y &&& 31)) :: st) w Q) : rEvZ Z M d k n pc l (.int y :: .int x :: st) w Q := by
  intro p lau e R s m args below meth c G H locs cells slots mc ms ls Qm X hl hE
  exact lv_ishr X.1.1 X.1.2.1  hd  (kk p lau e R s m args below meth c G H locs cells slots mc ms ls Qm X hl hE)
theorem rv_iushr {x y : Int32} (hd : decode M.2.1 pc = .ok (.iushr, 1)) (kk : rEvZ Z M d k n (pc + 1) l (.int (x.toUInt32 >>> (y.toUInt32 &&& Int32.toUInt32 31)).toInt32 :: st) w Q) : rEvZ Z M d k n pc l (.int y :: .int x :: st) w Q := by
  intro p lau e R s m args below meth c G H locs cells slots mc ms ls Qm X hl hE
  exact lv_iushr X.1.1 X.1.2.1  hd rfl (kk p lau e R s m args below meth c G H locs cells slots mc ms ls Qm X hl hE)
theorem rv_ineg {x : Int32} (hd : decode M.2.1 pc = .ok (.ineg, 1)) (kk : rEvZ Z M d k n (pc + 1) l (.int (-x) :: st) w Q) : rEvZ Z M d k n pc l (.int x :: st) w Q := by
  intro p lau e R s m args below meth c G H locs cells slots mc ms ls Qm X hl hE
  exact lv_ineg X.1.1 X.1.2.1  hd  (kk p lau e R s m args below meth c G H locs cells slots mc ms ls Qm X hl hE)
theorem rv_ladd {x y : Int64} (hd : decode M.2.1 pc = .ok (.ladd, 1)) (kk : rEvZ Z M d k n (pc + 1) l (.long (x + y) :: st) w Q) : rEvZ Z M d k n pc l (.long y :: .long x :: st) w Q := by
  intro p lau e R s m args below meth c G H locs cells slots mc ms ls Qm X hl hE
  exact lv_ladd X.1.1 X.1.2.1  hd  (kk p lau e R s m args below meth c G H locs cells slots mc ms ls Qm X hl hE)
theorem rv_lsub {x y : Int64} (hd : decode M.2.1 pc = .ok (.lsub, 1)) (kk : rEvZ Z M d k n (pc + 1) l (.long (x - y) :: st) w Q) : rEvZ Z M d k n pc l (.long y :: .long x :: st) w Q := by
  intro p lau e R s m args below meth c G H locs cells slots mc ms ls Qm X hl hE
  exact lv_lsub X.1.1 X.1.2.1  hd  (kk p lau e R s m args below meth c G H locs cells slots mc ms ls Qm X hl hE)
theorem rv_land {x y : Int64} (hd : decode M.2.1 pc = .ok (.land, 1)) (kk : rEvZ Z M d k n (pc + 1) l (.long (x &&& y) :: st) w Q) : rEvZ Z M d k n pc l (.long y :: .long x :: st) w Q := by
  intro p lau e R s m args below meth c G H locs cells slots mc ms ls Qm X hl hE
  exact lv_land X.1.1 X.1.2.1  hd  (kk p lau e R s m args below meth c G H locs cells slots mc ms ls Qm X hl hE)
theorem rv_lor {x y : Int64} (hd : decode M.2.1 pc = .ok (.lor, 1)) (kk : rEvZ Z M d k n (pc + 1) l (.long (x ||| y) :: st) w Q) : rEvZ Z M d k n pc l (.long y :: .long x :: st) w Q := by
  intro p lau e R s m args below meth c G H locs cells slots mc ms ls Qm X hl hE
  exact lv_lor X.1.1 X.1.2.1  hd  (kk p lau e R s m args below meth c G H locs cells slots mc ms ls Qm X hl hE)
theorem rv_lxor {x y : Int64} (hd : decode M.2.1 pc = .ok (.lxor, 1)) (kk : rEvZ Z M d k n (pc + 1) l (.long (x ^^^ y) :: st) w Q) : rEvZ Z M d k n pc l (.long y :: .long x :: st) w Q := by
  intro p lau e R s m args below meth c G H locs cells slots mc ms ls Qm X hl hE
  exact lv_lxor X.1.1 X.1.2.1  hd  (kk p lau e R s m args below meth c G H locs cells slots mc ms ls Qm X hl hE)
theorem rv_lshl {x : Int64} {y : Int32} (hd : decode M.2.1 pc = .ok (.lshl, 1)) (kk : rEvZ Z M d k n (pc + 1) l (.long (x <<< (y.toInt64 &&& 63)) :: st) w Q) : rEvZ Z M d k n pc l (.int y :: .long x :: st) w Q := by
  intro p lau e R s m args below meth c G H locs cells slots mc ms ls Qm X hl hE
  exact lv_lshl X.1.1 X.1.2.1  hd rfl (kk p lau e R s m args below meth c G H locs cells slots mc ms ls Qm X hl hE)
theorem rv_lshr {x : Int64} {y : Int32} (hd : decode M.2.1 pc = .ok (.lshr, 1)) (kk : rEvZ Z M d k n (pc + 1) l (.long (x >>> (y.toInt64 &&& 63)) :: st) w Q) : rEvZ Z M d k n pc l (.int y :: .long x :: st) w Q := by
  intro p lau e R s m args below meth c G H locs cells slots mc ms ls Qm X hl hE
  exact lv_lshr X.1.1 X.1.2.1  hd rfl (kk p lau e R s m args below meth c G H locs cells slots mc ms ls Qm X hl hE)
theorem rv_lushr {x : Int64} {y : Int32} (hd : decode M.2.1 pc = .ok (.lushr, 1)) (kk : rEvZ Z M d k n (pc + 1) l (.long (x.toUInt64 >>> (y.toInt64.toUInt64 &&& Int64.toUInt64 63)).toInt64 :: st) w Q) : rEvZ Z M d k n pc l (.int y :: .long x :: st) w Q := by
  intro p lau e R s m args below meth c G H locs cells slots mc ms ls Qm X hl hE
  exact lv_lushr X.1.1 X.1.2.1  hd rfl (kk p lau e R s m args below meth c G H locs cells slots mc ms ls Qm X hl hE)
theorem rv_lcmp {x y : Int64} (hd : decode M.2.1 pc = .ok (.lcmp, 1)) (kk : rEvZ Z M d k n (pc + 1) l (.int (lg_cmp x y) :: st) w Q) : rEvZ Z M d k n pc l (.long y :: .long x :: st) w Q := by
  intro p lau e R s m args below meth c G H locs cells slots mc ms ls Qm X hl hE
  exact W.lcmp X.1.1 X.1.2.1  hd  (kk p lau e R s m args below meth c G H locs cells slots mc ms ls Qm X hl hE)
theorem rv_i2l {x : Int32} (hd : decode M.2.1 pc = .ok (.i2l, 1)) (kk : rEvZ Z M d k n (pc + 1) l (.long x.toInt64 :: st) w Q) : rEvZ Z M d k n pc l (.int x :: st) w Q := by
  intro p lau e R s m args below meth c G H locs cells slots mc ms ls Qm X hl hE
  exact lv_i2l X.1.1 X.1.2.1  hd rfl (kk p lau e R s m args below meth c G H locs cells slots mc ms ls Qm X hl hE)
theorem rv_l2i {x : Int64} (hd : decode M.2.1 pc = .ok (.l2i, 1)) (kk : rEvZ Z M d k n (pc + 1) l (.int x.toInt32 :: st) w Q) : rEvZ Z M d k n pc l (.long x :: st) w Q := by
  intro p lau e R s m args below meth c G H locs cells slots mc ms ls Qm X hl hE
  exact lv_l2i X.1.1 X.1.2.1  hd rfl (kk p lau e R s m args below meth c G H locs cells slots mc ms ls Qm X hl hE)
theorem rv_i2b {x : Int32} (hd : decode M.2.1 pc = .ok (.i2b, 1)) (kk : rEvZ Z M d k n (pc + 1) l (.int x.toInt8.toInt32 :: st) w Q) : rEvZ Z M d k n pc l (.int x :: st) w Q := by
  intro p lau e R s m args below meth c G H locs cells slots mc ms ls Qm X hl hE
  exact lv_i2b X.1.1 X.1.2.1  hd rfl (kk p lau e R s m args below meth c G H locs cells slots mc ms ls Qm X hl hE)
theorem rv_i2s {x : Int32} (hd : decode M.2.1 pc = .ok (.i2s, 1)) (kk : rEvZ Z M d k n (pc + 1) l (.int x.toInt16.toInt32 :: st) w Q) : rEvZ Z M d k n pc l (.int x :: st) w Q := by
  intro p lau e R s m args below meth c G H locs cells slots mc ms ls Qm X hl hE
  exact lv_i2s X.1.1 X.1.2.1  hd rfl (kk p lau e R s m args below meth c G H locs cells slots mc ms ls Qm X hl hE)
theorem rv_idiv {x y : Int32} (hd : decode M.2.1 pc = .ok (.idiv, 1)) (hne : ¬ y = 0) (kk : rEvZ Z M d k n (pc + 1) l (.int (x / y) :: st) w Q) : rEvZ Z M d k n pc l (.int y :: .int x :: st) w Q := by
  intro p lau e R s m args below meth c G H locs cells slots mc ms ls Qm X hl hE
  exact lv_idiv X.1.1 X.1.2.1  hd hne (kk p lau e R s m args below meth c G H locs cells slots mc ms ls Qm X hl hE)
theorem rv_irem {x y : Int32} (hd : decode M.2.1 pc = .ok (.irem, 1)) (hne : ¬ y = 0) (kk : rEvZ Z M d k n (pc + 1) l (.int (x - x / y * y) :: st) w Q) : rEvZ Z M d k n pc l (.int y :: .int x :: st) w Q := by
  intro p lau e R s m args below meth c G H locs cells slots mc ms ls Qm X hl hE
  exact lv_irem X.1.1 X.1.2.1  hd hne (kk p lau e R s m args below meth c G H locs cells slots mc ms ls Qm X hl hE)
theorem rv_dup {va : Value} (hd : decode M.2.1 pc = .ok (.dup, 1)) (hva : va.category = 1) (kk : rEvZ Z M d k n (pc + 1) l (va :: va :: st) w Q) : rEvZ Z M d k n pc l (va :: st) w Q := by
  intro p lau e R s m args below meth c G H locs cells slots mc ms ls Qm X hl hE
  exact lv_dup X.1.1 X.1.2.1  hd (by rw [rv_cat]; exact hva) (kk p lau e R s m args below meth c G H locs cells slots mc ms ls Qm X hl hE)
theorem rv_dup_x1 {va vb : Value} (hd : decode M.2.1 pc = .ok (.dup_x1, 1)) (hva : va.category = 1) (hvb : vb.category = 1) (kk : rEvZ Z M d k n (pc + 1) l (va :: vb :: va :: st) w Q) : rEvZ Z M d k n pc l (va :: vb :: st) w Q := by
  intro p lau e R s m args below meth c G H locs cells slots mc ms ls Qm X hl hE
  exact lv_dup_x1 X.1.1 X.1.2.1  hd (by rw [rv_cat]; exact hva) (by rw [rv_cat]; exact hvb) (kk p lau e R s m args below meth c G H locs cells slots mc ms ls Qm X hl hE)
theorem rv_dup2 {va vb : Value} (hd : decode M.2.1 pc = .ok (.dup2, 1)) (hva : va.category = 1) (hvb : vb.category = 1) (kk : rEvZ Z M d k n (pc + 1) l (va :: vb :: va :: vb :: st) w Q) : rEvZ Z M d k n pc l (va :: vb :: st) w Q := by
  intro p lau e R s m args below meth c G H locs cells slots mc ms ls Qm X hl hE
  exact lv_dup2_11 X.1.1 X.1.2.1  hd (by rw [rv_cat]; exact hva) (by rw [rv_cat]; exact hvb) (kk p lau e R s m args below meth c G H locs cells slots mc ms ls Qm X hl hE)
theorem rv_pop {va : Value} (hd : decode M.2.1 pc = .ok (.pop, 1)) (hva : va.category = 1) (kk : rEvZ Z M d k n (pc + 1) l (st) w Q) : rEvZ Z M d k n pc l (va :: st) w Q := by
  intro p lau e R s m args below meth c G H locs cells slots mc ms ls Qm X hl hE
  exact lv_pop X.1.1 X.1.2.1  hd (by rw [rv_cat]; exact hva) (kk p lau e R s m args below meth c G H locs cells slots mc ms ls Qm X hl hE)
theorem rv_ldcw {ix : Nat} {v : Int32} (hd : decode M.2.1 pc = .ok (.ldc_w ix, 3)) (hw : Cond.constant M.1.cls ix v ∈ AW) (kk : rEvZ Z M d k n (pc + 3) l (.int v :: st) w Q) : rEvZ Z M d k n pc l st w Q := by
  intro p lau e R s m args below meth c G H locs cells slots mc ms ls Qm X hl hE
  exact lv_ldcw X.1.1 X.1.2.1 X.1.2.2.2.1 (X.1.2.2.2.2 _ hw) hd (kk p lau e R s m args below meth c G H locs cells slots mc ms ls Qm X hl hE)
theorem rv_ldc2 {ix : Nat} {v : Int64} (hd : decode M.2.1 pc = .ok (.ldc2_w ix, 3)) (hw : Cond.constantLong M.1.cls ix v ∈ AW) (kk : rEvZ Z M d k n (pc + 3) l (.long v :: st) w Q) : rEvZ Z M d k n pc l st w Q := by
  intro p lau e R s m args below meth c G H locs cells slots mc ms ls Qm X hl hE
  exact lv_ldc2 X.1.1 X.1.2.1 X.1.2.2.2.1 (X.1.2.2.2.2 _ hw) hd (kk p lau e R s m args below meth c G H locs cells slots mc ms ls Qm X hl hE)
theorem rv_iload {j : Nat} {x : Int32} (i : Nat) (hd : decode M.2.1 pc = .ok (.iload j, 2)) (hi : l[i]? = some (j, .int x)) (kk : rEvZ Z M d k n (pc + 2) l (.int x :: st) w Q) : rEvZ Z M d k n pc l st w Q := by
  intro p lau e R s m args below meth c G H locs cells slots mc ms ls Qm X hl hE
  exact lv_iload X.1.1 X.1.2.1 hd (lv_at hl i (rl_at hi)) (kk p lau e R s m args below meth c G H locs cells slots mc ms ls Qm X hl hE)
theorem rv_lload {j : Nat} {x : Int64} (i : Nat) (hd : decode M.2.1 pc = .ok (.lload j, 2)) (hi : l[i]? = some (j, .long x)) (kk : rEvZ Z M d k n (pc + 2) l (.long x :: st) w Q) : rEvZ Z M d k n pc l st w Q := by
  intro p lau e R s m args below meth c G H locs cells slots mc ms ls Qm X hl hE
  exact lv_lload X.1.1 X.1.2.1 hd (lv_at hl i (rl_at hi)) (kk p lau e R s m args below meth c G H locs cells slots mc ms ls Qm X hl hE)
theorem rv_iload_n {j : Fin 4} {x : Int32} (i : Nat) (hd : decode M.2.1 pc = .ok (.iload_n j, 1)) (hi : l[i]? = some ((j : Nat), .int x)) (kk : rEvZ Z M d k n (pc + 1) l (.int x :: st) w Q) : rEvZ Z M d k n pc l st w Q := by
  intro p lau e R s m args below meth c G H locs cells slots mc ms ls Qm X hl hE
  exact lv_iload_n X.1.1 X.1.2.1 hd rfl (lv_at hl i (rl_at hi)) (kk p lau e R s m args below meth c G H locs cells slots mc ms ls Qm X hl hE)
theorem rv_lload_n {j : Fin 4} {x : Int64} (i : Nat) (hd : decode M.2.1 pc = .ok (.lload_n j, 1)) (hi : l[i]? = some ((j : Nat), .long x)) (kk : rEvZ Z M d k n (pc + 1) l (.long x :: st) w Q) : rEvZ Z M d k n pc l st w Q := by
  intro p lau e R s m args below meth c G H locs cells slots mc ms ls Qm X hl hE
  exact lv_lload_n X.1.1 X.1.2.1 hd rfl (lv_at hl i (rl_at hi)) (kk p lau e R s m args below meth c G H locs cells slots mc ms ls Qm X hl hE)
theorem rv_aload {j : Nat} {x : Nat} (i : Nat) (hd : decode M.2.1 pc = .ok (.aload j, 2)) (hi : l[i]? = some (j, .ref x)) (kk : rEvZ Z M d k n (pc + 2) l (.ref x :: st) w Q) : rEvZ Z M d k n pc l st w Q := by
  intro p lau e R s m args below meth c G H locs cells slots mc ms ls Qm X hl hE
  exact lv_aload X.1.1 X.1.2.1 hd (lv_at hl i (rl_at hi)) (kk p lau e R s m args below meth c G H locs cells slots mc ms ls Qm X hl hE)
theorem rv_aloadT {j : Nat} {x : UInt32} (i : Nat) (hd : decode M.2.1 pc = .ok (.aload j, 2)) (hi : l[i]? = some (j, .float x)) (kk : rEvZ Z M d k n (pc + 2) l (.float x :: st) w Q) : rEvZ Z M d k n pc l st w Q := by
  intro p lau e R s m args below meth c G H locs cells slots mc ms ls Qm X hl hE
  exact lv_aload X.1.1 X.1.2.1 hd (lv_at hl i (rl_at hi)) (kk p lau e R s m args below meth c G H locs cells slots mc ms ls Qm X hl hE)
theorem rv_aload_n {j : Fin 4} {x : Nat} (i : Nat) (hd : decode M.2.1 pc = .ok (.aload_n j, 1)) (hi : l[i]? = some ((j : Nat), .ref x)) (kk : rEvZ Z M d k n (pc + 1) l (.ref x :: st) w Q) : rEvZ Z M d k n pc l st w Q := by
  intro p lau e R s m args below meth c G H locs cells slots mc ms ls Qm X hl hE
  exact lv_aload_n X.1.1 X.1.2.1 hd rfl (lv_at hl i (rl_at hi)) (kk p lau e R s m args below meth c G H locs cells slots mc ms ls Qm X hl hE)
theorem rv_aload_nT {j : Fin 4} {x : UInt32} (i : Nat) (hd : decode M.2.1 pc = .ok (.aload_n j, 1)) (hi : l[i]? = some ((j : Nat), .float x)) (kk : rEvZ Z M d k n (pc + 1) l (.float x :: st) w Q) : rEvZ Z M d k n pc l st w Q := by
  intro p lau e R s m args below meth c G H locs cells slots mc ms ls Qm X hl hE
  exact lv_aload_n X.1.1 X.1.2.1 hd rfl (lv_at hl i (rl_at hi)) (kk p lau e R s m args below meth c G H locs cells slots mc ms ls Qm X hl hE)
theorem rv_istore {j : Nat} {x : Int32} {l2 : List (Nat × Value)} (hd : decode M.2.1 pc = .ok (.istore j, 2)) (hlt : Nat.ble (j + 1) M.2.2.1 = true) (hl2 : (j, Value.int x) :: l.filter (fun q => !(q.1 == j) && !(q.1 + 1 == j && q.2.category == 2)) = l2) (kk : rEvZ Z M d k n (pc + 2) l2 st w Q) : rEvZ Z M d k n pc l (.int x :: st) w Q := by
  intro p lau e R s m args below meth c G H locs cells slots mc ms ls Qm X hl hE
  exact lv_istore (lv' := rl G l2) X.1.1 X.1.2.1 hd hl (Nat.le_of_ble_eq_true hlt) (rl_st (G := G) hl2) (fun ls2 hl3 => kk p lau e R s m args below meth c G H locs cells slots mc ms ls2 Qm X hl3 hE)
theorem rv_istore_n {j : Fin 4} {x : Int32} {l2 : List (Nat × Value)} (hd : decode M.2.1 pc = .ok (.istore_n j, 1)) (hlt : Nat.ble ((j : Nat) + 1) M.2.2.1 = true) (hl2 : ((j : Nat), Value.int x) :: l.filter (fun q => !(q.1 == (j : Nat)) && !(q.1 + 1 == (j : Nat) && q.2.category == 2)) = l2) (kk : rEvZ Z M d k n (pc + 1) l2 st w Q) : rEvZ Z M d k n pc l (.int x :: st) w Q := by
  intro p lau e R s m args below meth c G H locs cells slots mc ms ls Qm X hl hE
  exact lv_istore_n (lv' := rl G l2) X.1.1 X.1.2.1 hd rfl hl (Nat.le_of_ble_eq_true hlt) (rl_st (G := G) hl2) (fun ls2 hl3 => kk p lau e R s m args below meth c G H locs cells slots mc ms ls2 Qm X hl3 hE)
theorem rv_lstore {j : Nat} {x : Int64} {l2 : List (Nat × Value)} (hd : decode M.2.1 pc = .ok (.lstore j, 2)) (hlt : Nat.ble (j + 2) M.2.2.1 = true) (hl2 : (j, Value.long x) :: l.filter (fun q => !(q.1 == j) && (!(q.1 == j + 1) && !(q.1 + 1 == j && q.2.category == 2))) = l2) (kk : rEvZ Z M d k n (pc + 2) l2 st w Q) : rEvZ Z M d k n pc l (.long x :: st) w Q := by
  intro p lau e R s m args below meth c G H locs cells slots mc ms ls Qm X hl hE
  exact lv_lstore (lv' := rl G l2) X.1.1 X.1.2.1 hd hl (Nat.le_of_ble_eq_true hlt) (rl_st2 (G := G) hl2) (fun ls2 hl3 => kk p lau e R s m args below meth c G H locs cells slots mc ms ls2 Qm X hl3 hE)
theorem rv_lstore_n {j : Fin 4} {x : Int64} {l2 : List (Nat × Value)} (hd : decode M.2.1 pc = .ok (.lstore_n j, 1)) (hlt : Nat.ble ((j : Nat) + 2) M.2.2.1 = true) (hl2 : ((j : Nat), Value.long x) :: l.filter (fun q => !(q.1 == (j : Nat)) && (!(q.1 == (j : Nat) + 1) && !(q.1 + 1 == (j : Nat) && q.2.category == 2))) = l2) (kk : rEvZ Z M d k n (pc + 1) l2 st w Q) : rEvZ Z M d k n pc l (.long x :: st) w Q := by
  intro p lau e R s m args below meth c G H locs cells slots mc ms ls Qm X hl hE
  exact lv_lstore_n (lv' := rl G l2) X.1.1 X.1.2.1 hd rfl hl (Nat.le_of_ble_eq_true hlt) (rl_st2 (G := G) hl2) (fun ls2 hl3 => kk p lau e R s m args below meth c G H locs cells slots mc ms ls2 Qm X hl3 hE)
theorem rv_astore {j : Nat} {x : Nat} {l2 : List (Nat × Value)} (hd : decode M.2.1 pc = .ok (.astore j, 2)) (hlt : Nat.ble (j + 1) M.2.2.1 = true) (hl2 : (j, Value.ref x) :: l.filter (fun q => !(q.1 == j) && !(q.1 + 1 == j && q.2.category == 2)) = l2) (kk : rEvZ Z M d k n (pc + 2) l2 st w Q) : rEvZ Z M d k n pc l (.ref x :: st) w Q := by
  intro p lau e R s m args below meth c G H locs cells slots mc ms ls Qm X hl hE
  exact lv_astore (lv' := rl G l2) X.1.1 X.1.2.1 hd hl (Nat.le_of_ble_eq_true hlt) (rl_st (G := G) hl2) (fun ls2 hl3 => kk p lau e R s m args below meth c G H locs cells slots mc ms ls2 Qm X hl3 hE)
theorem rv_astore_n {j : Fin 4} {x : Nat} {l2 : List (Nat × Value)} (hd : decode M.2.1 pc = .ok (.astore_n j, 1)) (hlt : Nat.ble ((j : Nat) + 1) M.2.2.1 = true) (hl2 : ((j : Nat), Value.ref x) :: l.filter (fun q => !(q.1 == (j : Nat)) && !(q.1 + 1 == (j : Nat) && q.2.category == 2)) = l2) (kk : rEvZ Z M d k n (pc + 1) l2 st w Q) : rEvZ Z M d k n pc l (.ref x :: st) w Q := by
  intro p lau e R s m args below meth c G H locs cells slots mc ms ls Qm X hl hE
  exact lv_astore_n (lv' := rl G l2) X.1.1 X.1.2.1 hd rfl hl (Nat.le_of_ble_eq_true hlt) (rl_st (G := G) hl2) (fun ls2 hl3 => kk p lau e R s m args below meth c G H locs cells slots mc ms ls2 Qm X hl3 hE)
theorem rv_astoreT {j : Nat} {x : UInt32} {l2 : List (Nat × Value)} (hd : decode M.2.1 pc = .ok (.astore j, 2)) (hlt : Nat.ble (j + 1) M.2.2.1 = true) (hl2 : (j, Value.float x) :: l.filter (fun q => !(q.1 == j) && !(q.1 + 1 == j && q.2.category == 2)) = l2) (kk : rEvZ Z M d k n (pc + 2) l2 st w Q) : rEvZ Z M d k n pc l (.float x :: st) w Q := by
  intro p lau e R s m args below meth c G H locs cells slots mc ms ls Qm X hl hE
  exact lv_astore (lv' := rl G l2) X.1.1 X.1.2.1 hd hl (Nat.le_of_ble_eq_true hlt) (rl_st (G := G) hl2) (fun ls2 hl3 => kk p lau e R s m args below meth c G H locs cells slots mc ms ls2 Qm X hl3 hE)
theorem rv_astore_nT {j : Fin 4} {x : UInt32} {l2 : List (Nat × Value)} (hd : decode M.2.1 pc = .ok (.astore_n j, 1)) (hlt : Nat.ble ((j : Nat) + 1) M.2.2.1 = true) (hl2 : ((j : Nat), Value.float x) :: l.filter (fun q => !(q.1 == (j : Nat)) && !(q.1 + 1 == (j : Nat) && q.2.category == 2)) = l2) (kk : rEvZ Z M d k n (pc + 1) l2 st w Q) : rEvZ Z M d k n pc l (.float x :: st) w Q := by
  intro p lau e R s m args below meth c G H locs cells slots mc ms ls Qm X hl hE
  exact lv_astore_n (lv' := rl G l2) X.1.1 X.1.2.1 hd rfl hl (Nat.le_of_ble_eq_true hlt) (rl_st (G := G) hl2) (fun ls2 hl3 => kk p lau e R s m args below meth c G H locs cells slots mc ms ls2 Qm X hl3 hE)
theorem rv_iinc {j : Nat} {z : Int} {x v : Int32} {l2 : List (Nat × Value)} (i : Nat) (hd : decode M.2.1 pc = .ok (.iinc j z, 3)) (hi : l[i]? = some (j, .int x)) (hv : x + Int32.ofInt z = v) (hlt : Nat.ble (j + 1) M.2.2.1 = true) (hl2 : (j, Value.int v) :: l.filter (fun q => !(q.1 == j) && !(q.1 + 1 == j && q.2.category == 2)) = l2) (kk : rEvZ Z M d k n (pc + 3) l2 st w Q) : rEvZ Z M d k n pc l st w Q := by
  intro p lau e R s m args below meth c G H locs cells slots mc ms ls Qm X hl hE
  exact lv_iinc (lv' := rl G l2) X.1.1 X.1.2.1 hd hl (k := i) (rl_at hi) hv (Nat.le_of_ble_eq_true hlt) (rl_st (G := G) hl2) (fun ls2 hl3 => kk p lau e R s m args below meth c G H locs cells slots mc ms ls2 Qm X hl3 hE)
theorem rv_icmp_eq {x y : Int32} {off : Int} (tgt : Nat) (hd : decode M.2.1 pc = .ok (.if_icmp .eq off, 3)) (ht : (pc : Int) + off = (tgt : Int)) (kt : x = y → rEvZ Z M d k n tgt l st w Q) (kf : ¬ x = y → rEvZ Z M d k n (pc + 3) l st w Q) : rEvZ Z M d k n pc l (.int y :: .int x :: st) w Q := by
  intro p lau e R s m args below meth c G H locs cells slots mc ms ls Qm X hl hE
  exact lv_icmp_eq X.1.1 X.1.2.1 hd ht (fun h => (kt h p lau e R s m args below meth c G H locs cells slots mc ms ls Qm X hl hE)) (fun h => (kf h p lau e R s m args below meth c G H locs cells slots mc ms ls Qm X hl hE))
theorem rv_if_eq {x : Int32} {off : Int} (tgt : Nat) (hd : decode M.2.1 pc = .ok (.ifCond .eq off, 3)) (ht : (pc : Int) + off = (tgt : Int)) (kt : x = 0 → rEvZ Z M d k n tgt l st w Q) (kf : ¬ x = 0 → rEvZ Z M d k n (pc + 3) l st w Q) : rEvZ Z M d k n pc l (.int x :: st) w Q := by
  intro p lau e R s m args below meth c G H locs cells slots mc ms ls Qm X hl hE
  exact lv_if_eq X.1.1 X.1.2.1 hd ht (fun h => (kt h p lau e R s m args below meth c G H locs cells slots mc ms ls Qm X hl hE)) (fun h => (kf h p lau e R s m args below meth c G H locs cells slots mc ms ls Qm X hl hE))
theorem rv_icmp_ne {x y : Int32} {off : Int} (tgt : Nat) (hd : decode M.2.1 pc = .ok (.if_icmp .ne off, 3)) (ht : (pc : Int) + off = (tgt : Int)) (kt : ¬ x = y → rEvZ Z M d k n tgt l st w Q) (kf : x = y → rEvZ Z M d k n (pc + 3) l st w Q) : rEvZ Z M d k n pc l (.int y :: .int x :: st) w Q := by
  intro p lau e R s m args below meth c G H locs cells slots mc ms ls Qm X hl hE
  exact lv_icmp_ne X.1.1 X.1.2.1 hd ht (fun h => (kt h p lau e R s m args below meth c G H locs cells slots mc ms ls Qm X hl hE)) (fun h => (kf h p lau e R s m args below meth c G H locs cells slots mc ms ls Qm X hl hE))
theorem rv_if_ne {x : Int32} {off : Int} (tgt : Nat) (hd : decode M.2.1 pc = .ok (.ifCond .ne off, 3)) (ht : (pc : Int) + off = (tgt : Int)) (kt : ¬ x = 0 → rEvZ Z M d k n tgt l st w Q) (kf : x = 0 → rEvZ Z M d k n (pc + 3) l st w Q) : rEvZ Z M d k n pc l (.int x :: st) w Q := by
  intro p lau e R s m args below meth c G H locs cells slots mc ms ls Qm X hl hE
  exact lv_if_ne X.1.1 X.1.2.1 hd ht (fun h => (kt h p lau e R s m args below meth c G H locs cells slots mc ms ls Qm X hl hE)) (fun h => (kf h p lau e R s m args below meth c G H locs cells slots mc ms ls Qm X hl hE))
theorem rv_icmp_lt {x y : Int32} {off : Int} (tgt : Nat) (hd : decode M.2.1 pc = .ok (.if_icmp .lt off, 3)) (ht : (pc : Int) + off = (tgt : Int)) (kt : x < y → rEvZ Z M d k n tgt l st w Q) (kf : ¬ x < y → rEvZ Z M d k n (pc + 3) l st w Q) : rEvZ Z M d k n pc l (.int y :: .int x :: st) w Q := by
  intro p lau e R s m args below meth c G H locs cells slots mc ms ls Qm X hl hE
  exact lv_icmp_lt X.1.1 X.1.2.1 hd ht (fun h => (kt h p lau e R s m args below meth c G H locs cells slots mc ms ls Qm X hl hE)) (fun h => (kf h p lau e R s m args below meth c G H locs cells slots mc ms ls Qm X hl hE))
theorem rv_if_lt {x : Int32} {off : Int} (tgt : Nat) (hd : decode M.2.1 pc = .ok (.ifCond .lt off, 3)) (ht : (pc : Int) + off = (tgt : Int)) (kt : x < 0 → rEvZ Z M d k n tgt l st w Q) (kf : ¬ x < 0 → rEvZ Z M d k n (pc + 3) l st w Q) : rEvZ Z M d k n pc l (.int x :: st) w Q := by
  intro p lau e R s m args below meth c G H locs cells slots mc ms ls Qm X hl hE
  exact lv_if_lt X.1.1 X.1.2.1 hd ht (fun h => (kt h p lau e R s m args below meth c G H locs cells slots mc ms ls Qm X hl hE)) (fun h => (kf h p lau e R s m args below meth c G H locs cells slots mc ms ls Qm X hl hE))
theorem rv_icmp_ge {x y : Int32} {off : Int} (tgt : Nat) (hd : decode M.2.1 pc = .ok (.if_icmp .ge off, 3)) (ht : (pc : Int) + off = (tgt : Int)) (kt : y ≤ x → rEvZ Z M d k n tgt l st w Q) (kf : ¬ y ≤ x → rEvZ Z M d k n (pc + 3) l st w Q) : rEvZ Z M d k n pc l (.int y :: .int x :: st) w Q := by
  intro p lau e R s m args below meth c G H locs cells slots mc ms ls Qm X hl hE
  exact lv_icmp_ge X.1.1 X.1.2.1 hd ht (fun h => (kt h p lau e R s m args below meth c G H locs cells slots mc ms ls Qm X hl hE)) (fun h => (kf h p lau e R s m args below meth c G H locs cells slots mc ms ls Qm X hl hE))
theorem rv_if_ge {x : Int32} {off : Int} (tgt : Nat) (hd : decode M.2.1 pc = .ok (.ifCond .ge off, 3)) (ht : (pc : Int) + off = (tgt : Int)) (kt : 0 ≤ x → rEvZ Z M d k n tgt l st w Q) (kf : ¬ 0 ≤ x → rEvZ Z M d k n (pc + 3) l st w Q) : rEvZ Z M d k n pc l (.int x :: st) w Q := by
  intro p lau e R s m args below meth c G H locs cells slots mc ms ls Qm X hl hE
  exact lv_if_ge X.1.1 X.1.2.1 hd ht (fun h => (kt h p lau e R s m args below meth c G H locs cells slots mc ms ls Qm X hl hE)) (fun h => (kf h p lau e R s m args below meth c G H locs cells slots mc ms ls Qm X hl hE))
theorem rv_icmp_gt {x y : Int32} {off : Int} (tgt : Nat) (hd : decode M.2.1 pc = .ok (.if_icmp .gt off, 3)) (ht : (pc : Int) + off = (tgt : Int)) (kt : y < x → rEvZ Z M d k n tgt l st w Q) (kf : ¬ y < x → rEvZ Z M d k n (pc + 3) l st w Q) : rEvZ Z M d k n pc l (.int y :: .int x :: st) w Q := by
  intro p lau e R s m args below meth c G H locs cells slots mc ms ls Qm X hl hE
  exact lv_icmp_gt X.1.1 X.1.2.1 hd ht (fun h => (kt h p lau e R s m args below meth c G H locs cells slots mc ms ls Qm X hl hE)) (fun h => (kf h p lau e R s m args below meth c G H locs cells slots mc ms ls Qm X hl hE))
theorem rv_if_gt {x : Int32} {off : Int} (tgt : Nat) (hd : decode M.2.1 pc = .ok (.ifCond .gt off, 3)) (ht : (pc : Int) + off = (tgt : Int)) (kt : 0 < x → rEvZ Z M d k n tgt l st w Q) (kf : ¬ 0 < x → rEvZ Z M d k n (pc + 3) l st w Q) : rEvZ Z M d k n pc l (.int x :: st) w Q := by
  intro p lau e R s m args below meth c G H locs cells slots mc ms ls Qm X hl hE
  exact lv_if_gt X.1.1 X.1.2.1 hd ht (fun h => (kt h p lau e R s m args below meth c G H locs cells slots mc ms ls Qm X hl hE)) (fun h => (kf h p lau e R s m args below meth c G H locs cells slots mc ms ls Qm X hl hE))
theorem rv_icmp_le {x y : Int32} {off : Int} (tgt : Nat) (hd : decode M.2.1 pc = .ok (.if_icmp .le off, 3)) (ht : (pc : Int) + off = (tgt : Int)) (kt : x ≤ y → rEvZ Z M d k n tgt l st w Q) (kf : ¬ x ≤ y → rEvZ Z M d k n (pc + 3) l st w Q) : rEvZ Z M d k n pc l (.int y :: .int x :: st) w Q := by
  intro p lau e R s m args below meth c G H locs cells slots mc ms ls Qm X hl hE
  exact lv_icmp_le X.1.1 X.1.2.1 hd ht (fun h => (kt h p lau e R s m args below meth c G H locs cells slots mc ms ls Qm X hl hE)) (fun h => (kf h p lau e R s m args below meth c G H locs cells slots mc ms ls Qm X hl hE))
theorem rv_if_le {x : Int32} {off : Int} (tgt : Nat) (hd : decode M.2.1 pc = .ok (.ifCond .le off, 3)) (ht : (pc : Int) + off = (tgt : Int)) (kt : x ≤ 0 → rEvZ Z M d k n tgt l st w Q) (kf : ¬ x ≤ 0 → rEvZ Z M d k n (pc + 3) l st w Q) : rEvZ Z M d k n pc l (.int x :: st) w Q := by
  intro p lau e R s m args below meth c G H locs cells slots mc ms ls Qm X hl hE
  exact lv_if_le X.1.1 X.1.2.1 hd ht (fun h => (kt h p lau e R s m args below meth c G H locs cells slots mc ms ls Qm X hl hE)) (fun h => (kf h p lau e R s m args below meth c G H locs cells slots mc ms ls Qm X hl hE))
theorem rv_goto {off : Int} (tgt : Nat) (hd : decode M.2.1 pc = .ok (.goto off, 3)) (ht : (pc : Int) + off = (tgt : Int)) (kk : rEvZ Z M d k n tgt l st w Q) : rEvZ Z M d k n pc l st w Q := by
  intro p lau e R s m args below meth c G H locs cells slots mc ms ls Qm X hl hE
  exact lv_goto X.1.1 X.1.2.1 hd ht (kk p lau e R s m args below meth c G H locs cells slots mc ms ls Qm X hl hE)
/-- a switch: v is one of its places, or none that leads elsewhere -/
theorem rv_tswIn {dflt lo hi : Int} {offs : Array Int} {len : Nat} {x : Int32} {off : Int} (tgt : Nat) (hd : decode M.2.1 pc = .ok (.tableswitch dflt lo hi offs, len)) {v : Int32} (hx : x = v) (h1 : ¬ v.toInt < lo) (h2 : ¬ hi < v.toInt) (ho : offs[(v.toInt - lo).toNat]? = some off) (ht : (pc : Int) + off = (tgt : Int)) (kk : rEvZ Z M d k n tgt l st w Q) : rEvZ Z M d k n pc l (.int x :: st) w Q := by
  subst hx
  intro p lau e R s m args below meth c G H locs cells slots mc ms ls Qm X hl hE
  exact lv_tableIn X.1.1 X.1.2.1 hd h1 h2 ho ht (kk p lau e R s m args below meth c G H locs cells slots mc ms ls Qm X hl hE)
theorem rv_tswOut {dflt lo hi : Int} {offs : Array Int} {len : Nat} {x : Int32} (tgt : Nat) (vs : List Int32) (hd : decode M.2.1 pc = .ok (.tableswitch dflt lo hi offs, len)) (ht : (pc : Int) + dflt = (tgt : Int)) (hall : (List.range offs.size).all (fun j => decide (offs[j]? = some dflt) || decide (Int32.ofInt (lo + j) ∈ vs)) = true) (hsz : (offs.size : Int) = hi - lo + 1) (hx : ∀ v ∈ vs, ¬ x = v) (kk : rEvZ Z M d k n tgt l st w Q) : rEvZ Z M d k n pc l (.int x :: st) w Q := by
  intro p lau e R s m args below meth c G H locs cells slots mc ms ls Qm X hl hE
  by_cases h1 : x.toInt < lo
  · exact lv_tableOut X.1.1 X.1.2.1 hd (Or.inl h1) ht (kk p lau e R s m args below meth c G H locs cells slots mc ms ls Qm X hl hE)
  · by_cases h2 : hi < x.toInt
    · exact lv_tableOut X.1.1 X.1.2.1 hd (Or.inr h2) ht (kk p lau e R s m args below meth c G H locs cells slots mc ms ls Qm X hl hE)
    · have hj : (x.toInt - lo).toNat < offs.size := by omega
      have h3 := List.all_eq_true.mp hall _ (List.mem_range.mpr hj)
      simp only [Bool.or_eq_true, decide_eq_true_eq] at h3
      rcases h3 with h3 | h3
      · exact lv_tableIn X.1.1 X.1.2.1 hd h1 h2 h3 ht (kk p lau e R s m args below meth c G H locs cells slots mc ms ls Qm X hl hE)
      · refine absurd ?_ (hx _ h3)
        rw [show lo + ((x.toInt - lo).toNat : Int) = x.toInt by omega, Int32.ofInt_toInt]
theorem rv_iret {x : Int32} (ty : FieldType) (hd : decode M.2.1 pc = .ok (.ireturn, 1)) (hr : M.2.2.2 = some ty) (hn : narrow ty (.int x) = .int x) (hq : Q (some (.int x)) w) : rEvZ Z M d 0 n pc l [.int x] w Q := by
  intro p lau e R s m args below meth c G H locs cells slots mc ms ls Qm X hl hE
  exact hE (some (.int x)) w H locs cells slots pc ls hq ⟨X.1, X.2.1, ⟨by omega, by omega, X.2.2.1.2.2.1, X.2.2.1.2.2.2.1, X.2.2.1.2.2.2.2.1, by have := X.2.2.1.2.2.2.2.2; omega⟩, X.2.2.2⟩ (Or.inl ⟨x, ty, rfl, hr, hn, hd⟩)
theorem rv_lret {x : Int64} (hd : decode M.2.1 pc = .ok (.lreturn, 1)) (hr : M.2.2.2 = some .long) (hq : Q (some (.long x)) w) : rEvZ Z M d 0 n pc l [.long x] w Q := by
  intro p lau e R s m args below meth c G H locs cells slots mc ms ls Qm X hl hE
  exact hE (some (.long x)) w H locs cells slots pc ls hq ⟨X.1, X.2.1, ⟨by omega, by omega, X.2.2.1.2.2.1, X.2.2.1.2.2.2.1, X.2.2.1.2.2.2.2.1, by have := X.2.2.1.2.2.2.2.2; omega⟩, X.2.2.2⟩ (Or.inr (Or.inl ⟨x, rfl, hr, hd⟩))
theorem rv_vret (hd : decode M.2.1 pc = .ok (.return_, 1)) (hr : M.2.2.2 = none) (hq : Q none w) : rEvZ Z M d 0 n pc l [] w Q := by
  intro p lau e R s m args below meth c G H locs cells slots mc ms ls Qm X hl hE
  exact hE none w H locs cells slots pc ls hq ⟨X.1, X.2.1, ⟨by omega, by omega, X.2.2.1.2.2.1, X.2.2.1.2.2.2.1, X.2.2.1.2.2.2.2.1, by have := X.2.2.1.2.2.2.2.2; omega⟩, X.2.2.2⟩ (Or.inr (Or.inr (Or.inl ⟨rfl, hr, hd⟩)))
theorem rv_aretT {u : UInt32} (cn : String) (hd : decode M.2.1 pc = .ok (.areturn, 1)) (hr : M.2.2.2 = some (.object cn)) (hq : Q (some (.float u)) w) : rEvZ Z M d 0 n pc l [.float u] w Q := by
  intro p lau e R s m args below meth c G H locs cells slots mc ms ls Qm X hl hE
  exact hE (some (.float u)) w H locs cells slots pc ls hq ⟨X.1, X.2.1, ⟨by omega, by omega, X.2.2.1.2.2.1, X.2.2.1.2.2.2.1, X.2.2.1.2.2.2.2.1, by have := X.2.2.1.2.2.2.2.2; omega⟩, X.2.2.2⟩ (Or.inr (Or.inr (Or.inr ⟨u, cn, rfl, hr, hd⟩)))
end RULES

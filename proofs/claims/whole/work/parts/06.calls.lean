/-! CALLS -/
def rB2 {α β γ : Type} (x : Option (α × β)) (F : α → β → Option γ) : Option γ := x.bind (fun q => F q.1 q.2)
theorem rB2_some {α β γ : Type} {x : Option (α × β)} {F : α → β → Option γ} {r : γ} (h : rB2 x F = some r) : ∃ a b, x = some (a, b) ∧ F a b = some r := by
  obtain ⟨⟨a, b⟩, h1, h2⟩ := rBind h
  exact ⟨a, b, h1, h2⟩
theorem rB2_eq {α β γ : Type} {a : α} {b : β} {F : α → β → Option γ} : rB2 (some (a, b)) F = F a b := rfl
def rCal (M : rM) (np : Nat) : Prop := Cond.code M.1 M.2.1 M.2.2.1 M.2.2.2 ∈ AW ∧ Cond.initialized M.1.cls ∈ AW ∧ (M.1.cls ≠ "java/lang/invoke/MethodHandle" ∧ M.1.cls ≠ "java/lang/invoke/VarHandle" ∧ (parseMethodDescriptor M.1.desc).map (fun d => d.parameters.length) = some np) ∧ Nat.ble M.2.2.1 300 = true
def rCv (M : rM) (ci : Nat) : Prop := Cond.instanceMethod M.1 ∈ AW ∧ Cond.selects M.1.cls M.1 M.1 ∈ AW ∧ (vwCl[ci]?).map (fun q => q.1) = some M.1.cls
def rCt (M : rM) : Prop := Cond.instanceMethod M.1 ∈ AW ∧ Cond.selects M.1.cls M.1 M.1 ∈ AW ∧ M.1.cls = "java/lang/String"
def rCs (M : rM) : Prop := Cond.static M.1 ∈ AW
def rCi (M : rM) : Prop := Cond.instanceMethod M.1 ∈ AW ∧ M.1.name = "<init>" ∧ M.2.2.2 = none
theorem goodAW {ws : List Cond} (h : ∀ w ∈ ws, w ∈ AW) : GoodIn AW ws := fun w hw => aw_good w (h w hw)
theorem rWs_in {M : rM} {np : Nat} (h : rCal M np) : ∀ w ∈ rWs M, w ∈ AW := fun w hw => (List.mem_cons.mp hw).elim (fun e => e ▸ h.1) (fun h => h)
theorem rPc_blind (G : rG) (vs : List Value) (w : rW) : FrameBlind (va_Pc vs (rPc G w)) := by
  intro a U g mk q
  obtain ⟨h1, h2, h3, h4, h5⟩ := q
  exact ⟨h1, h2.same (U := U.calling g mk a) rfl, h3.moved (U := U.calling g mk a) (Vm.Alike.refl U.vm), h4, h5⟩
section RULES
variable {Z : rG → Prop} {M : rM} {d k n pc : Nat} {l : List (Nat × Value)} {st : List Value} {w : rW} {Q : Option Value → rW → Prop} {α : Type} {res : α}
theorem rCallGo {p : Program} {lau : Launch} {e : Env} {R : Room} {s : State} {m : MethodId} {args : Array Value} {below : List Frame} {meth : Method} {c : Code} {G : rG} {H : Heap} {locs : List Loc} {cells slots k2 n2 : Nat} {ls : Array Slot} {Qm : State → Prop} {stk rest : List Value} {r0 : Option Value} {w0 : rW} {a : Array Value}
    (hr : va_Run p lau e R s m args below meth c H locs cells slots k2 n2 (F0 m pc ls stk) rest (rQc G k2 w (rIs r0 w0) a) (rA G)) (hS : va_S (rA G) s.heap H locs)
    (kk : ∀ (H1 : Heap) (locs1 : List Loc), va_P G.2.1 vwCl (rws G w0) H1 → va_S (rA G) s.heap H1 locs1 → w0.length = w.length + k2 → W p lau e R s m args below meth c H1 locs1 (cells + k2) (slots + n2) Qm (F0 m (pc + 3) ls ((r0.map (rv G)).toList ++ rest))) : W p lau e R s m args below meth c H locs cells slots Qm (F0 m pc ls stk) := by
  intro T hT X
  obtain ⟨v, st₀, t, T', L, h0, X', hL, e1, e2, ⟨⟨r, u, hv, ⟨rfl, rfl⟩, hp, hlen⟩, hz, hk⟩, st⟩ := hr T hT X
  cases hv
  rw [h0] at hz hk
  obtain ⟨t2, a1, b1⟩ := kk T'.heap (locs ++ L) (by rw [e1]; exact hp)
    ⟨Nat.le_trans hS.1 (by rw [e1]; exact hz), fun q h1 h2 => by rw [e1, hk q (Nat.lt_of_lt_of_le h1 hS.1) h2]; exact hS.2.1 q h1 h2, fun q hq => by
      rcases List.mem_append.mp hq with h | h
      · exact hS.2.2 q h
      · exact hL q h⟩ hlen T' rfl X'
  exact ⟨t2, st t2 a1, b1⟩
theorem rPre {p : Program} {R : Room} {s : State} {m : MethodId} {args : Array Value} {meth : Method} {c : Code} {G : rG} {H : Heap} {locs : List Loc} {cells slots mc ms : Nat} (X : rX Z M d k n p R s m args meth c G H locs cells slots mc ms w) (hle : H.size ≤ s.heap.size + cells) : ∀ U : State, U.heap = H → s.WarmedH U.vm → rPc G w U := by
  intro U hU hW
  have hge := rSize (G := G) (Nat.le_trans X.2.2.2.1.2.2.1 X.2.2.2.2.2.1) X.2.2.2.2.1
  have hH : H.size = G.1 + w.length := by have := X.2.2.2.1.2.2.2; omega
  refine ⟨X.2.2.2.1.1.warm hW, ?_, by rw [hU]; exact hH, by rw [hU]; exact X.2.2.2.2.1⟩
  rw [hU]
  exact (X.2.2.2.1.2.1.kept X.2.2.2.2.2.2.1).moved hW.alike
def jabs (x : Int32) : Int32 := if 0 ≤ x then x else 0 - x
theorem rv_callV {M2 : rM} {ix d2 k2 n2 k3 n3 np : Nat} {As st2 stk : List Value} {r0 : Option Value} {w0 : rW} {b ci : Nat} (hc : rCal M2 np) (hv : rCv M2 ci) (hml : Cond.methodLink M.1.cls ix M2.1 ∈ AW) (hd : decode M.2.1 pc = .ok (.invokevirtual ix, 3)) (hdep : Nat.ble (d2 + 1) d = true) (hM : rMet M2 d2 k2 n2 (.ref b :: As) w (rIs r0 w0)) (hb : ∃ fs, w[b]? = some (cO ci fs)) (hst : As.reverse ++ .ref b :: st2 = stk) (hlen : As.length = np) (hcat : Nat.ble ((st2.map (fun v => v.category)).sum) 8 = true) (hk : k2 + k3 = k) (hn : n2 + n3 = n) (kk : rEvZ Z M d k3 n3 (pc + 3) l (r0.toList ++ st2) w0 Q) : rEvZ Z M d k n pc l stk w Q := by
  subst hst
  subst hk
  subst hn
  have hdp := Nat.le_of_ble_eq_true hdep
  have hml2 := Nat.le_of_ble_eq_true hc.2.2.2
  intro p lau e R s m args below meth c G H locs cells slots mc ms ls Qm X hl hE
  obtain ⟨fs, hw⟩ := hb
  obtain ⟨qC, hq, hq1⟩ := Option.map_eq_some_iff.mp hv.2.2
  have hG : ∀ x ∈ wsV M.1.cls ix M2.1.cls M2.1 (rWs M2), x ∈ AW := by
    intro x hx
    rcases List.mem_append.mp hx with h | h
    · simp only [List.mem_cons, List.not_mem_nil, or_false] at h
      rcases h with rfl | rfl | rfl | rfl
      · exact hml
      · exact hv.1
      · exact hv.2.1
      · exact hc.2.1
    · exact rWs_in hc x h
  refine rW_size fun hle => ?_
  refine rCallGo (r0 := r0) (w0 := w0) (rest := st2.map (rv G)) (va_runV (As := As.map (rv G)) (rest := st2.map (rv G)) X.1 (hM lau G) (cwV (C := M2.1.cls) np X.1.2.2.2.2 (goodAW hG) rfl rfl rfl ⟨rfl, hc.2.2.1⟩ ⟨by have := X.2.2.1; show 8 * d2 + 1 ≤ R.frames; omega, by have := X.2.2.1; show 8 + (M2.2.2.1 + 11) + 400 * d2 ≤ R.locals; omega⟩) ⟨rPc_blind G _ w, by rw [← hq1]; exact va_recv (q := qC) X.2.2.2.1.1.1 X.2.2.2.2.1 hq (rws_at hw), fun U hU hW => ⟨rfl, rPre X hle U hU hW⟩⟩ rfl (by rw [List.length_map]; exact hlen) hl.1 (by rw [List.map_append, List.map_reverse]; rfl) (lv_room (by rw [List.map_map]; refine Nat.le_trans (Nat.le_of_eq ?_) (Nat.le_of_ble_eq_true hcat); congr 1; apply List.map_congr_left; intro v _; exact rv_cat G v)) hd ⟨by have := X.2.2.1; omega, by have := X.2.2.1; omega⟩) X.2.2.2.2.2 (fun H1 locs1 hP1 hS1 hlen1 => ?_)
  have e1 : (r0.toList ++ st2).map (rv G) = (r0.map (rv G)).toList ++ st2.map (rv G) := by cases r0 <;> simp
  rw [← e1]
  exact kk p lau e R s m args below meth c G H1 locs1 (cells + k2) (slots + n2) mc ms ls Qm ⟨X.1, X.2.1, ⟨X.2.2.1.1, X.2.2.1.2.1, X.2.2.1.2.2.1, X.2.2.1.2.2.2.1, by have := X.2.2.1.2.2.2.2.1; omega, by have := X.2.2.1.2.2.2.2.2; omega⟩, ⟨X.2.2.2.1.1, X.2.2.2.1.2.1, X.2.2.2.1.2.2.1, by have := X.2.2.2.1.2.2.2; omega⟩, hP1, hS1⟩ hl hE
theorem rv_callT {M2 : rM} {ix d2 k2 n2 k3 n3 np : Nat} {As st2 stk : List Value} {r0 : Option Value} {w0 : rW} {u : UInt32} (hc : rCal M2 np) (hv : rCt M2) (hml : Cond.methodLink M.1.cls ix M2.1 ∈ AW) (hd : decode M.2.1 pc = .ok (.invokevirtual ix, 3)) (hdep : Nat.ble (d2 + 1) d = true) (hM : rMet M2 d2 k2 n2 (.float u :: As) w (rIs r0 w0)) (hu : u.toNat < rTxN) (hst : As.reverse ++ .float u :: st2 = stk) (hlen : As.length = np) (hcat : Nat.ble ((st2.map (fun v => v.category)).sum) 8 = true) (hk : k2 + k3 = k) (hn : n2 + n3 = n) (kk : rEvZ Z M d k3 n3 (pc + 3) l (r0.toList ++ st2) w0 Q) : rEvZ Z M d k n pc l stk w Q := by
  subst hst
  subst hk
  subst hn
  have hdp := Nat.le_of_ble_eq_true hdep
  have hml2 := Nat.le_of_ble_eq_true hc.2.2.2
  intro p lau e R s m args below meth c G H locs cells slots mc ms ls Qm X hl hE
  have hG : ∀ x ∈ wsV M.1.cls ix M2.1.cls M2.1 (rWs M2), x ∈ AW := by
    intro x hx
    rcases List.mem_append.mp hx with h | h
    · simp only [List.mem_cons, List.not_mem_nil, or_false] at h
      rcases h with rfl | rfl | rfl | rfl
      · exact hml
      · exact hv.1
      · exact hv.2.1
      · exact hc.2.1
    · exact rWs_in hc x h
  refine rW_size fun hle => ?_
  refine rCallGo (r0 := r0) (w0 := w0) (rest := st2.map (rv G)) (va_runV (As := As.map (rv G)) (rest := st2.map (rv G)) X.1 (hM lau G) (cwV (C := M2.1.cls) np X.1.2.2.2.2 (goodAW hG) rfl rfl rfl ⟨rfl, hc.2.2.1⟩ ⟨by have := X.2.2.1; show 8 * d2 + 1 ≤ R.frames; omega, by have := X.2.2.1; show 8 + (M2.2.2.1 + 11) + 400 * d2 ≤ R.locals; omega⟩) ⟨rPc_blind G _ w, by rw [hv.2.2]; exact vk_recv X.2.2.2.1.2.1.1 hu X.2.2.2.2.2, fun U hU hW => ⟨rfl, rPre X hle U hU hW⟩⟩ rfl (by rw [List.length_map]; exact hlen) hl.1 (by rw [List.map_append, List.map_reverse]; rfl) (lv_room (by rw [List.map_map]; refine Nat.le_trans (Nat.le_of_eq ?_) (Nat.le_of_ble_eq_true hcat); congr 1; apply List.map_congr_left; intro v _; exact rv_cat G v)) hd ⟨by have := X.2.2.1; omega, by have := X.2.2.1; omega⟩) X.2.2.2.2.2 (fun H1 locs1 hP1 hS1 hlen1 => ?_)
  have e1 : (r0.toList ++ st2).map (rv G) = (r0.map (rv G)).toList ++ st2.map (rv G) := by cases r0 <;> simp
  rw [← e1]
  exact kk p lau e R s m args below meth c G H1 locs1 (cells + k2) (slots + n2) mc ms ls Qm ⟨X.1, X.2.1, ⟨X.2.2.1.1, X.2.2.1.2.1, X.2.2.1.2.2.1, X.2.2.1.2.2.2.1, by have := X.2.2.1.2.2.2.2.1; omega, by have := X.2.2.1.2.2.2.2.2; omega⟩, ⟨X.2.2.2.1.1, X.2.2.2.1.2.1, X.2.2.2.1.2.2.1, by have := X.2.2.2.1.2.2.2; omega⟩, hP1, hS1⟩ hl hE
theorem rv_callS {M2 : rM} {ix d2 k2 n2 k3 n3 np : Nat} {As st2 stk : List Value} {r0 : Option Value} {w0 : rW} (hc : rCal M2 np) (hs : rCs M2) (hml : Cond.methodLink M.1.cls ix M2.1 ∈ AW) (hd : decode M.2.1 pc = .ok (.invokestatic ix, 3)) (hdep : Nat.ble (d2 + 1) d = true) (hM : rMet M2 d2 k2 n2 (As) w (rIs r0 w0)) (hst : As.reverse ++ st2 = stk) (hlen : As.length = np) (hcat : Nat.ble ((st2.map (fun v => v.category)).sum) 8 = true) (hk : k2 + k3 = k) (hn : n2 + n3 = n) (kk : rEvZ Z M d k3 n3 (pc + 3) l (r0.toList ++ st2) w0 Q) : rEvZ Z M d k n pc l stk w Q := by
  subst hst
  subst hk
  subst hn
  have hdp := Nat.le_of_ble_eq_true hdep
  have hml2 := Nat.le_of_ble_eq_true hc.2.2.2
  intro p lau e R s m args below meth c G H locs cells slots mc ms ls Qm X hl hE
  have hG : ∀ x ∈ va_wsS M.1.cls ix M2.1 (rWs M2), x ∈ AW := by
    intro x hx
    rcases List.mem_append.mp hx with h | h
    · simp only [List.mem_cons, List.not_mem_nil, or_false] at h
      rcases h with rfl | rfl | rfl
      · exact hml
      · exact hs
      · exact hc.2.1
    · exact rWs_in hc x h
  refine rW_size fun hle => ?_
  refine rCallGo (r0 := r0) (w0 := w0) (rest := st2.map (rv G)) (va_runS (As := As.map (rv G)) (rest := st2.map (rv G)) X.1 (hM lau G) (va_cwS np X.1.2.2.2.2 (goodAW hG) rfl rfl rfl hc.2.2.1 ⟨by have := X.2.2.1; show 8 * d2 + 1 ≤ R.frames; omega, by have := X.2.2.1; show 8 + (M2.2.2.1 + 11) + 400 * d2 ≤ R.locals; omega⟩) ⟨rPc_blind G _ w, fun U hU hW => ⟨rfl, rPre X hle U hU hW⟩⟩ rfl (by rw [List.length_map]; exact hlen) hl.1 (by rw [List.map_append, List.map_reverse]) (lv_room (by rw [List.map_map]; refine Nat.le_trans (Nat.le_of_eq ?_) (Nat.le_of_ble_eq_true hcat); congr 1; apply List.map_congr_left; intro v _; exact rv_cat G v)) hd ⟨by have := X.2.2.1; omega, by have := X.2.2.1; omega⟩) X.2.2.2.2.2 (fun H1 locs1 hP1 hS1 hlen1 => ?_)
  have e1 : (r0.toList ++ st2).map (rv G) = (r0.map (rv G)).toList ++ st2.map (rv G) := by cases r0 <;> simp
  rw [← e1]
  exact kk p lau e R s m args below meth c G H1 locs1 (cells + k2) (slots + n2) mc ms ls Qm ⟨X.1, X.2.1, ⟨X.2.2.1.1, X.2.2.1.2.1, X.2.2.1.2.2.1, X.2.2.1.2.2.2.1, by have := X.2.2.1.2.2.2.2.1; omega, by have := X.2.2.1.2.2.2.2.2; omega⟩, ⟨X.2.2.2.1.1, X.2.2.2.1.2.1, X.2.2.2.1.2.2.1, by have := X.2.2.2.1.2.2.2; omega⟩, hP1, hS1⟩ hl hE
theorem rv_callSN {M2 : rM} {ix d2 k2 n2 k3 n3 np : Nat} {As st2 stk : List Value} {r0 : Option Value} {w0 : rW} (host : String) (hc : rCal M2 np) (hs : rCs M2) (hml : (M.1.cls, ix, M2.1, host) ∈ rNest) (hd : decode M.2.1 pc = .ok (.invokestatic ix, 3)) (hdep : Nat.ble (d2 + 1) d = true) (hM : rMet M2 d2 k2 n2 (As) w (rIs r0 w0)) (hst : As.reverse ++ st2 = stk) (hlen : As.length = np) (hcat : Nat.ble ((st2.map (fun v => v.category)).sum) 8 = true) (hk : k2 + k3 = k) (hn : n2 + n3 = n) (kk : rEvZ Z M d k3 n3 (pc + 3) l (r0.toList ++ st2) w0 Q) : rEvZ Z M d k n pc l stk w Q := by
  subst hst
  subst hk
  subst hn
  have hdp := Nat.le_of_ble_eq_true hdep
  have hml2 := Nat.le_of_ble_eq_true hc.2.2.2
  intro p lau e R s m args below meth c G H locs cells slots mc ms ls Qm X hl hE
  refine rW_size fun hle => ?_
  refine rCallGo (r0 := r0) (w0 := w0) (rest := st2.map (rv G)) (va_runSN (As := As.map (rv G)) (rest := st2.map (rv G)) X.1 (hM lau G) ⟨va_cnB (host := host) np X.1.2.2.2.2 (goodAW (rWs_in hc)) rfl rfl rfl (X.2.2.2.1.1.2.1 _ hml) (X.1.2.2.2.2 _ hc.2.1) hc.2.2.1 ⟨by have := X.2.2.1; show 8 * d2 + 1 ≤ R.frames; omega, by have := X.2.2.1; show 8 + (M2.2.2.1 + 11) + 400 * d2 ≤ R.locals; omega⟩, X.1.2.2.2.2 _ hs, trivial⟩ ⟨rPc_blind G _ w, fun U hU hW => ⟨rfl, rPre X hle U hU hW⟩⟩ rfl (by rw [List.length_map]; exact hlen) hl.1 (by rw [List.map_append, List.map_reverse]) (lv_room (by rw [List.map_map]; refine Nat.le_trans (Nat.le_of_eq ?_) (Nat.le_of_ble_eq_true hcat); congr 1; apply List.map_congr_left; intro v _; exact rv_cat G v)) hd ⟨by have := X.2.2.1; omega, by have := X.2.2.1; omega⟩) X.2.2.2.2.2 (fun H1 locs1 hP1 hS1 hlen1 => ?_)
  have e1 : (r0.toList ++ st2).map (rv G) = (r0.map (rv G)).toList ++ st2.map (rv G) := by cases r0 <;> simp
  rw [← e1]
  exact kk p lau e R s m args below meth c G H1 locs1 (cells + k2) (slots + n2) mc ms ls Qm ⟨X.1, X.2.1, ⟨X.2.2.1.1, X.2.2.1.2.1, X.2.2.1.2.2.1, X.2.2.1.2.2.2.1, by have := X.2.2.1.2.2.2.2.1; omega, by have := X.2.2.1.2.2.2.2.2; omega⟩, ⟨X.2.2.2.1.1, X.2.2.2.1.2.1, X.2.2.2.1.2.2.1, by have := X.2.2.2.1.2.2.2; omega⟩, hP1, hS1⟩ hl hE
theorem rv_callI {M2 : rM} {ix d2 k2 n2 k3 n3 np : Nat} {As st2 stk : List Value} {r0 : Option Value} {w0 : rW} {b : Nat} (hc : rCal M2 np) (hs : rCi M2) (hml : Cond.methodLink M.1.cls ix M2.1 ∈ AW) (hd : decode M.2.1 pc = .ok (.invokespecial ix, 3)) (hdep : Nat.ble (d2 + 1) d = true) (hM : rMet M2 d2 k2 n2 (.ref b :: As) w (rIs r0 w0)) (hst : As.reverse ++ .ref b :: st2 = stk) (hlen : As.length = np) (hcat : Nat.ble ((st2.map (fun v => v.category)).sum) 8 = true) (hk : k2 + k3 = k) (hn : n2 + n3 = n) (kk : rEvZ Z M d k3 n3 (pc + 3) l (r0.toList ++ st2) w0 Q) : rEvZ Z M d k n pc l stk w Q := by
  subst hst
  subst hk
  subst hn
  have hdp := Nat.le_of_ble_eq_true hdep
  have hml2 := Nat.le_of_ble_eq_true hc.2.2.2
  intro p lau e R s m args below meth c G H locs cells slots mc ms ls Qm X hl hE
  have hret := hs.2.2
  refine rW_size fun hle => ?_
  refine rCallGo (r0 := r0) (w0 := w0) (rest := st2.map (rv G)) (va_runI (As := As.map (rv G)) (rest := st2.map (rv G)) X.1 (hM lau G) (cwI np X.1.2.2.2.2 (goodAW (rWs_in hc)) (by rw [show rWs M2 = Cond.code M2.1 M2.2.1 M2.2.2.1 M2.2.2.2 :: AW from rfl, hret]) rfl rfl (X.1.2.2.2.2 _ hc.2.1) (X.1.2.2.2.2 _ hml) (X.1.2.2.2.2 _ hs.1) hs.2.1 hc.2.2.1 ⟨by have := X.2.2.1; show 8 * d2 + 1 ≤ R.frames; omega, by have := X.2.2.1; show 8 + (M2.2.2.1 + 11) + 400 * d2 ≤ R.locals; omega⟩) ⟨rPc_blind G _ w, fun U hU hW => ⟨rfl, rPre X hle U hU hW⟩⟩ rfl (by rw [List.length_map]; exact hlen) hl.1 (by rw [List.map_append, List.map_reverse]; rfl) (lv_room (by rw [List.map_map]; refine Nat.le_trans (Nat.le_of_eq ?_) (Nat.le_of_ble_eq_true hcat); congr 1; apply List.map_congr_left; intro v _; exact rv_cat G v)) hd ⟨by have := X.2.2.1; omega, by have := X.2.2.1; omega⟩) X.2.2.2.2.2 (fun H1 locs1 hP1 hS1 hlen1 => ?_)
  have e1 : (r0.toList ++ st2).map (rv G) = (r0.map (rv G)).toList ++ st2.map (rv G) := by cases r0 <;> simp
  rw [← e1]
  exact kk p lau e R s m args below meth c G H1 locs1 (cells + k2) (slots + n2) mc ms ls Qm ⟨X.1, X.2.1, ⟨X.2.2.1.1, X.2.2.1.2.1, X.2.2.1.2.2.1, X.2.2.1.2.2.2.1, by have := X.2.2.1.2.2.2.2.1; omega, by have := X.2.2.1.2.2.2.2.2; omega⟩, ⟨X.2.2.2.1.1, X.2.2.2.1.2.1, X.2.2.2.1.2.2.1, by have := X.2.2.2.1.2.2.2; omega⟩, hP1, hS1⟩ hl hE
theorem rv_callIN {M2 : rM} {ix d2 k2 n2 k3 n3 np : Nat} {As st2 stk : List Value} {r0 : Option Value} {w0 : rW} {b : Nat} (host : String) (hc : rCal M2 np) (hs : rCi M2) (hml : (M.1.cls, ix, M2.1, host) ∈ rNest) (hd : decode M.2.1 pc = .ok (.invokespecial ix, 3)) (hdep : Nat.ble (d2 + 1) d = true) (hM : rMet M2 d2 k2 n2 (.ref b :: As) w (rIs r0 w0)) (hst : As.reverse ++ .ref b :: st2 = stk) (hlen : As.length = np) (hcat : Nat.ble ((st2.map (fun v => v.category)).sum) 8 = true) (hk : k2 + k3 = k) (hn : n2 + n3 = n) (kk : rEvZ Z M d k3 n3 (pc + 3) l (r0.toList ++ st2) w0 Q) : rEvZ Z M d k n pc l stk w Q := by
  subst hst
  subst hk
  subst hn
  have hdp := Nat.le_of_ble_eq_true hdep
  have hml2 := Nat.le_of_ble_eq_true hc.2.2.2
  intro p lau e R s m args below meth c G H locs cells slots mc ms ls Qm X hl hE
  have hret := hs.2.2
  refine rW_size fun hle => ?_
  refine rCallGo (r0 := r0) (w0 := w0) (rest := st2.map (rv G)) (va_runIN (As := As.map (rv G)) (rest := st2.map (rv G)) X.1 (hM lau G) ⟨va_cnB (host := host) np X.1.2.2.2.2 (goodAW (rWs_in hc)) (by rw [show rWs M2 = Cond.code M2.1 M2.2.1 M2.2.2.1 M2.2.2.2 :: AW from rfl, hret]) rfl rfl (X.2.2.2.1.1.2.1 _ hml) (X.1.2.2.2.2 _ hc.2.1) hc.2.2.1 ⟨by have := X.2.2.1; show 8 * d2 + 1 ≤ R.frames; omega, by have := X.2.2.1; show 8 + (M2.2.2.1 + 11) + 400 * d2 ≤ R.locals; omega⟩, hs.2.1, X.1.2.2.2.2 _ hs.1⟩ ⟨rPc_blind G _ w, fun U hU hW => ⟨rfl, rPre X hle U hU hW⟩⟩ rfl (by rw [List.length_map]; exact hlen) hl.1 (by rw [List.map_append, List.map_reverse]; rfl) (lv_room (by rw [List.map_map]; refine Nat.le_trans (Nat.le_of_eq ?_) (Nat.le_of_ble_eq_true hcat); congr 1; apply List.map_congr_left; intro v _; exact rv_cat G v)) hd ⟨by have := X.2.2.1; omega, by have := X.2.2.1; omega⟩) X.2.2.2.2.2 (fun H1 locs1 hP1 hS1 hlen1 => ?_)
  have e1 : (r0.toList ++ st2).map (rv G) = (r0.map (rv G)).toList ++ st2.map (rv G) := by cases r0 <;> simp
  rw [← e1]
  exact kk p lau e R s m args below meth c G H1 locs1 (cells + k2) (slots + n2) mc ms ls Qm ⟨X.1, X.2.1, ⟨X.2.2.1.1, X.2.2.1.2.1, X.2.2.1.2.2.1, X.2.2.1.2.2.2.1, by have := X.2.2.1.2.2.2.2.1; omega, by have := X.2.2.1.2.2.2.2.2; omega⟩, ⟨X.2.2.2.1.1, X.2.2.2.1.2.1, X.2.2.2.1.2.2.1, by have := X.2.2.2.1.2.2.2; omega⟩, hP1, hS1⟩ hl hE
theorem rv_objInit {b ix : Nat} (hml : Cond.methodLink M.1.cls ix Lib.objectInit ∈ AW) (hin : Cond.instanceMethod Lib.objectInit ∈ AW) (hco : Cond.code Lib.objectInit ⟨#[0xb1]⟩ 1 none ∈ AW) (hd : decode M.2.1 pc = .ok (.invokespecial ix, 3)) (hdep : Nat.ble 1 d = true) (hcat : Nat.ble ((st.map (fun v => v.category)).sum) 8 = true) (kk : rEvZ Z M d k n (pc + 3) l st w Q) : rEvZ Z M d k n pc l (.ref b :: st) w Q := by
  have hdp := Nat.le_of_ble_eq_true hdep
  intro p lau e R s m args below meth c G H locs cells slots mc ms ls Qm X hl hE
  refine W.objInit X.1.1 X.1.2.1 X.1.2.2.2.1 (X.1.2.2.2.2 _ hml) (X.1.2.2.2.2 _ hin) (X.1.2.2.2.2 _ hco) rfl (by rw [X.1.2.2.1]; exact hl.1) rfl hd (by have := X.2.2.1; omega) ?_ (kk p lau e R s m args below meth c G H locs cells slots mc ms ls Qm X hl hE)
  have h8 : ((st.map (rv G)).map (fun v => v.category)).sum ≤ 8 := by
    rw [List.map_map]; refine Nat.le_trans (Nat.le_of_eq ?_) (Nat.le_of_ble_eq_true hcat); congr 1; apply List.map_congr_left; intro v _; exact rv_cat G v
  have := lv_room (pc := pc) (ls := ls) (rest := st.map (rv G)) (m := m) h8
  have hx := X.2.2.1
  refine Nat.le_trans (Nat.add_le_add_right this 12) ?_
  omega
theorem rv_mmax {ix : Nat} {x y : Int32} (hml : Cond.methodLink M.1.cls ix Lib.Math.max.name ∈ AW) (hs : Cond.static Lib.Math.max.name ∈ AW) (hini : Cond.initialized "java/lang/Math" ∈ AW) (hco : Cond.code Lib.Math.max.name Lib.Math.max.code 2 (some .int) ∈ AW) (hd : decode M.2.1 pc = .ok (.invokestatic ix, 3)) (hdep : Nat.ble 1 d = true) (hcat : Nat.ble ((st.map (fun v => v.category)).sum) 8 = true) (kk : rEvZ Z M d k n (pc + 3) l (.int (jmax x y) :: st) w Q) : rEvZ Z M d k n pc l (.int y :: .int x :: st) w Q := by
  have hdp := Nat.le_of_ble_eq_true hdep
  intro p lau e R s m args below meth c G H locs cells slots mc ms ls Qm X hl hE
  have h8 : ((st.map (rv G)).map (fun v => v.category)).sum ≤ 8 := by
    rw [List.map_map]; refine Nat.le_trans (Nat.le_of_eq ?_) (Nat.le_of_ble_eq_true hcat); congr 1; apply List.map_congr_left; intro v _; exact rv_cat G v
  exact va_mmax X.1.1 X.1.2.1 (by rw [X.1.2.2.1]; exact hl.1.symm) X.1.2.2.2.1 (X.1.2.2.2.2 _ hml) (X.1.2.2.2.2 _ hs) (X.1.2.2.2.2 _ hini) (X.1.2.2.2.2 _ hco) (by have := X.2.2.1; omega) (by have := X.2.2.1; omega) (by have := X.2.2.1; omega) (by have := X.2.2.1; omega) hd (kk p lau e R s m args below meth c G H locs cells slots mc ms ls Qm X hl hE)
theorem rv_mmin {ix : Nat} {x y : Int32} (hml : Cond.methodLink M.1.cls ix Lib.Math.min.name ∈ AW) (hs : Cond.static Lib.Math.min.name ∈ AW) (hini : Cond.initialized "java/lang/Math" ∈ AW) (hco : Cond.code Lib.Math.min.name Lib.Math.min.code 2 (some .int) ∈ AW) (hd : decode M.2.1 pc = .ok (.invokestatic ix, 3)) (hdep : Nat.ble 1 d = true) (hcat : Nat.ble ((st.map (fun v => v.category)).sum) 8 = true) (kk : rEvZ Z M d k n (pc + 3) l (.int (jmin x y) :: st) w Q) : rEvZ Z M d k n pc l (.int y :: .int x :: st) w Q := by
  have hdp := Nat.le_of_ble_eq_true hdep
  intro p lau e R s m args below meth c G H locs cells slots mc ms ls Qm X hl hE
  have h8 : ((st.map (rv G)).map (fun v => v.category)).sum ≤ 8 := by
    rw [List.map_map]; refine Nat.le_trans (Nat.le_of_eq ?_) (Nat.le_of_ble_eq_true hcat); congr 1; apply List.map_congr_left; intro v _; exact rv_cat G v
  exact va_mmin X.1.1 X.1.2.1 (by rw [X.1.2.2.1]; exact hl.1.symm) X.1.2.2.2.1 (X.1.2.2.2.2 _ hml) (X.1.2.2.2.2 _ hs) (X.1.2.2.2.2 _ hini) (X.1.2.2.2.2 _ hco) (by have := X.2.2.1; omega) (by have := X.2.2.1; omega) (by have := X.2.2.1; omega) (by have := X.2.2.1; omega) hd (kk p lau e R s m args below meth c G H locs cells slots mc ms ls Qm X hl hE)
theorem rv_mabs {ix : Nat} {x : Int32} (hml : Cond.methodLink M.1.cls ix Lib.Math.abs.name ∈ AW) (hs : Cond.static Lib.Math.abs.name ∈ AW) (hini : Cond.initialized "java/lang/Math" ∈ AW) (hco : Cond.code Lib.Math.abs.name Lib.Math.abs.code 1 (some .int) ∈ AW) (hd : decode M.2.1 pc = .ok (.invokestatic ix, 3)) (hdep : Nat.ble 1 d = true) (hcat : Nat.ble ((st.map (fun v => v.category)).sum) 8 = true) (kk : rEvZ Z M d k n (pc + 3) l (.int (jabs x) :: st) w Q) : rEvZ Z M d k n pc l (.int x :: st) w Q := by
  have hdp := Nat.le_of_ble_eq_true hdep
  intro p lau e R s m args below meth c G H locs cells slots mc ms ls Qm X hl hE
  have h8 : ((st.map (rv G)).map (fun v => v.category)).sum ≤ 8 := by
    rw [List.map_map]; refine Nat.le_trans (Nat.le_of_eq ?_) (Nat.le_of_ble_eq_true hcat); congr 1; apply List.map_congr_left; intro v _; exact rv_cat G v
  exact va_mabs X.1.1 X.1.2.1 (by rw [X.1.2.2.1]; exact hl.1.symm) X.1.2.2.2.1 (X.1.2.2.2.2 _ hml) (X.1.2.2.2.2 _ hs) (X.1.2.2.2.2 _ hini) (X.1.2.2.2.2 _ hco) (by have := X.2.2.1; omega) (by have := X.2.2.1; omega) (by have := X.2.2.1; omega) (by have := X.2.2.1; omega) hd (kk p lau e R s m args below meth c G H locs cells slots mc ms ls Qm X hl hE)
theorem rv_copyI {ix a b : Nat} {sp dp x : Int32} {F : rW → Option α} (hml : Cond.methodLink M.1.cls ix arraycopyName ∈ AW) (hnt : Cond.native arraycopyName ∈ AW) (hs : Cond.static arraycopyName ∈ AW) (hini : Cond.initialized "java/lang/System" ∈ AW) (hd : decode M.2.1 pc = .ok (.invokestatic ix, 3)) (hdep : Nat.ble 1 d = true) (hcat : Nat.ble ((st.map (fun v => v.category)).sum) 8 = true) (h : (rCpI w a sp b dp x).bind F = some res) (kk : ∀ w2, F w2 = some res → rEvZ Z M d k n (pc + 3) l st w2 Q) : rEvZ Z M d k n pc l (.int x :: .int dp :: .ref b :: .int sp :: .ref a :: st) w Q := by
  have hdp := Nat.le_of_ble_eq_true hdep
  obtain ⟨w2, hx, h⟩ := rBind h
  obtain ⟨n0, f, n1, g, hw0, hw1, h1, h2, h3, h4, h5, rfl⟩ := rCpI_some hx
  intro p lau e R s m args below meth c G H locs cells slots mc ms ls Qm X hl hE
  have h8 : ((st.map (rv G)).map (fun v => v.category)).sum ≤ 8 := by
    rw [List.map_map]; refine Nat.le_trans (Nat.le_of_eq ?_) (Nat.le_of_ble_eq_true hcat); congr 1; apply List.map_congr_left; intro v _; exact rv_cat G v
  refine va_copyi X.1.1 X.1.2.1 (by rw [X.1.2.2.1]; exact hl.1.symm) X.1.2.2.2.1 (X.1.2.2.2.2 _ hml) (X.1.2.2.2.2 _ hnt) (X.1.2.2.2.2 _ hs) (X.1.2.2.2.2 _ hini) X.2.2.2.1.1.1 X.2.2.2.2.1 (rD G w) X.2.2.2.2.2 a b 0 0 (rws_at hw0) (rws_at hw1) rfl rfl rfl h1 h2 h3 h4 h5 (fun _ _ => rfl) (by have := X.2.2.1; omega) (Nat.le_trans (Nat.add_le_add_right h8 _) (Nat.le_trans (by decide : 8 + (nativeFrameWords "java/lang/System" "arraycopy" 5 + 11) ≤ 400) (by have := X.2.2.1; omega))) hd (fun H1 locs1 hP1 _ hS1 => ?_)
  refine kk _ h p lau e R s m args below meth c G H1 locs1 cells slots mc ms ls Qm ⟨X.1, X.2.1, X.2.2.1, ⟨X.2.2.2.1.1, X.2.2.2.1.2.1, X.2.2.2.1.2.2.1, by rw [List.length_set]; exact X.2.2.2.1.2.2.2⟩, ?_, hS1⟩ hl hE
  rw [← rws_set]
  exact hP1
theorem rv_copyJ {ix a b : Nat} {sp dp x : Int32} {F : rW → Option α} (hml : Cond.methodLink M.1.cls ix arraycopyName ∈ AW) (hnt : Cond.native arraycopyName ∈ AW) (hs : Cond.static arraycopyName ∈ AW) (hini : Cond.initialized "java/lang/System" ∈ AW) (hd : decode M.2.1 pc = .ok (.invokestatic ix, 3)) (hdep : Nat.ble 1 d = true) (hcat : Nat.ble ((st.map (fun v => v.category)).sum) 8 = true) (h : (rCpJ w a sp b dp x).bind F = some res) (kk : ∀ w2, F w2 = some res → rEvZ Z M d k n (pc + 3) l st w2 Q) : rEvZ Z M d k n pc l (.int x :: .int dp :: .ref b :: .int sp :: .ref a :: st) w Q := by
  have hdp := Nat.le_of_ble_eq_true hdep
  obtain ⟨w2, hx, h⟩ := rBind h
  obtain ⟨n0, f, n1, g, hw0, hw1, h1, h2, h3, h4, h5, rfl⟩ := rCpJ_some hx
  intro p lau e R s m args below meth c G H locs cells slots mc ms ls Qm X hl hE
  have h8 : ((st.map (rv G)).map (fun v => v.category)).sum ≤ 8 := by
    rw [List.map_map]; refine Nat.le_trans (Nat.le_of_eq ?_) (Nat.le_of_ble_eq_true hcat); congr 1; apply List.map_congr_left; intro v _; exact rv_cat G v
  refine va_copyl X.1.1 X.1.2.1 (by rw [X.1.2.2.1]; exact hl.1.symm) X.1.2.2.2.1 (X.1.2.2.2.2 _ hml) (X.1.2.2.2.2 _ hnt) (X.1.2.2.2.2 _ hs) (X.1.2.2.2.2 _ hini) X.2.2.2.1.1.1 X.2.2.2.2.1 (rD G w) X.2.2.2.2.2 a b 1 1 (rws_at hw0) (rws_at hw1) rfl rfl rfl h1 h2 h3 h4 h5 (fun _ _ => rfl) (by have := X.2.2.1; omega) (Nat.le_trans (Nat.add_le_add_right h8 _) (Nat.le_trans (by decide : 8 + (nativeFrameWords "java/lang/System" "arraycopy" 5 + 11) ≤ 400) (by have := X.2.2.1; omega))) hd (fun H1 locs1 hP1 _ hS1 => ?_)
  refine kk _ h p lau e R s m args below meth c G H1 locs1 cells slots mc ms ls Qm ⟨X.1, X.2.1, X.2.2.1, ⟨X.2.2.2.1.1, X.2.2.2.1.2.1, X.2.2.2.1.2.2.1, by rw [List.length_set]; exact X.2.2.2.1.2.2.2⟩, ?_, hS1⟩ hl hE
  rw [← rws_set]
  exact hP1
theorem rv_ldcT {ix : Nat} {tx : String} (u : UInt32) (hq : (M.1.cls, ix, tx, u.toNat) ∈ rTexts) (hd : decode M.2.1 pc = .ok (.ldc ix, 2)) (kk : rEvZ Z M d k n (pc + 2) l (.float u :: st) w Q) : rEvZ Z M d k n pc l st w Q := by
  intro p lau e R s m args below meth c G H locs cells slots mc ms ls Qm X hl hE
  exact va_ldcS X.1.1 X.1.2.1 X.1.2.2.2.1 (X.2.2.2.1.1.2.2.2 _ hq) hd (kk p lau e R s m args below meth c G H locs cells slots mc ms ls Qm X hl hE)
theorem rv_getTc {ix : Nat} {u : UInt32} (hu : u.toNat < rTxN) (hf : Cond.fieldLink M.1.cls ix "java/lang/String" "coder" "B" ∈ AW) (hd : decode M.2.1 pc = .ok (.getfield ix, 3)) (kk : rEvZ Z M d k n (pc + 3) l (.int 0 :: st) w Q) : rEvZ Z M d k n pc l (.float u :: st) w Q := by
  intro p lau e R s m args below meth c G H locs cells slots mc ms ls Qm X hl hE
  exact vk_getf X.1.1 X.1.2.1 (X.2.2.2.1.2.1.1.1 _ hu).2.1 X.2.2.2.2.2 X.1.2.2.2.1 (X.1.2.2.2.2 _ hf) (fun _ h => h) hd (kk p lau e R s m args below meth c G H locs cells slots mc ms ls Qm X hl hE)
theorem rv_getTv {ix : Nat} {u v : UInt32} (hu : u.toNat < rTxN) (hv : v.toNat = 1000 + u.toNat) (hf : Cond.fieldLink M.1.cls ix "java/lang/String" "value" "[B" ∈ AW) (hd : decode M.2.1 pc = .ok (.getfield ix, 3)) (kk : rEvZ Z M d k n (pc + 3) l (.float v :: st) w Q) : rEvZ Z M d k n pc l (.float u :: st) w Q := by
  intro p lau e R s m args below meth c G H locs cells slots mc ms ls Qm X hl hE
  refine vk_getf X.1.1 X.1.2.1 (X.2.2.2.1.2.1.1.1 _ hu).2.2.1 X.2.2.2.2.2 X.1.2.2.2.1 (X.1.2.2.2.2 _ hf) (fun _ h => h) hd ?_
  have e1 : (Value.ref (G.2.2.2 (1000 + u.toNat))) = rv G (.float v) := by show _ = Value.ref (G.2.2.2 v.toNat); rw [hv]
  rw [e1]
  exact kk p lau e R s m args below meth c G H locs cells slots mc ms ls Qm X hl hE
theorem rv_Tlen {u v : UInt32} (hu : u.toNat < rTxN) (hv : v.toNat = 1000 + u.toNat) (hd : decode M.2.1 pc = .ok (.arraylength, 1)) (kk : rEvZ Z M d k n (pc + 1) l (.int (Int32.ofNat (rTxLen.getD u.toNat 0)) :: st) w Q) : rEvZ Z M d k n pc l (.float v :: st) w Q := by
  intro p lau e R s m args below meth c G H locs cells slots mc ms ls Qm X hl hE
  have hT := (X.2.2.2.1.2.1.1.1 _ hu).2.2.2
  have e1 : (Value.ref (G.2.2.2 (1000 + u.toNat))) = rv G (.float v) := by show _ = Value.ref (G.2.2.2 v.toNat); rw [hv]
  have goal : W p lau e R s m args below meth c H locs cells slots Qm (F0 m pc ls (.ref (G.2.2.2 (1000 + u.toNat)) :: st.map (rv G))) := va_tlen X.1.1 X.1.2.1 hT X.2.2.2.2.2 rfl hd (kk p lau e R s m args below meth c G H locs cells slots mc ms ls Qm X hl hE)
  rw [e1] at goal
  exact goal
theorem rv_Tb {u v : UInt32} {i : Int32} (hu : u.toNat < rTxN) (hv : v.toNat = 1000 + u.toNat) (hi : vp_in i (rTxLen.getD u.toNat 0)) (hd : decode M.2.1 pc = .ok (.baload, 1)) (kk : rEvZ Z M d k n (pc + 1) l (.int ((rTxByt.getD u.toNat []).getD i.toNatClampNeg 0) :: st) w Q) : rEvZ Z M d k n pc l (.int i :: .float v :: st) w Q := by
  intro p lau e R s m args below meth c G H locs cells slots mc ms ls Qm X hl hE
  have hT := (X.2.2.2.1.2.1.1.1 _ hu).2.2.2
  have e1 : (Value.ref (G.2.2.2 (1000 + u.toNat))) = rv G (.float v) := by show _ = Value.ref (G.2.2.2 v.toNat); rw [hv]
  have goal : W p lau e R s m args below meth c H locs cells slots Qm (F0 m pc ls (.int i :: .ref (G.2.2.2 (1000 + u.toNat)) :: st.map (rv G))) := va_tb X.1.1 X.1.2.1 hT X.2.2.2.2.2 hi rfl hd (kk p lau e R s m args below meth c G H locs cells slots mc ms ls Qm X hl hE)
  rw [e1] at goal
  exact goal
theorem rv_getsC {ix : Nat} (hf : Cond.fieldLink M.1.cls ix "java/lang/String" "COMPACT_STRINGS" "Z" ∈ AW) (hd : decode M.2.1 pc = .ok (.getstatic ix, 3)) (kk : rEvZ Z M d k n (pc + 3) l (.int 1 :: st) w Q) : rEvZ Z M d k n pc l st w Q := by
  intro p lau e R s m args below meth c G H locs cells slots mc ms ls Qm X hl hE
  exact va_gets X.1.1 X.1.2.1 X.2.2.2.1.2.1.2.1 X.2.2.2.2.2 X.1.2.2.2.1 (X.1.2.2.2.2 _ hf) (fun _ h => h) hd (kk p lau e R s m args below meth c G H locs cells slots mc ms ls Qm X hl hE)
theorem rv_getsF {ix : Nat} (hf : Cond.fieldLink M.1.cls ix "jdk/internal/util/Preconditions" "SIOOBE_FORMATTER" "Ljava/util/function/BiFunction;" ∈ AW) (hd : decode M.2.1 pc = .ok (.getstatic ix, 3)) (kk : ∀ v : Value, v = .null ∨ v = .float 5000 → rEvZ Z M d k n (pc + 3) l (v :: st) w Q) : rEvZ Z M d k n pc l st w Q := by
  intro p lau e R s m args below meth c G H locs cells slots mc ms ls Qm X hl hE
  rcases X.2.2.2.1.2.1.2.2.1 with hz | hz
  · exact va_gets X.1.1 X.1.2.1 hz X.2.2.2.2.2 X.1.2.2.2.1 (X.1.2.2.2.2 _ hf) (fun _ h => h) hd (kk _ (Or.inl rfl) p lau e R s m args below meth c G H locs cells slots mc ms ls Qm X hl hE)
  · exact va_gets X.1.1 X.1.2.1 hz X.2.2.2.2.2 X.1.2.2.2.1 (X.1.2.2.2.2 _ hf) (fun _ h => h) hd (kk _ (Or.inr rfl) p lau e R s m args below meth c G H locs cells slots mc ms ls Qm X hl hE)
def rZl (L : Nat) (xs : Nat → Int32) : rG → Prop := fun G => rXL G = L ∧ ∀ j, rXs G j = xs j
def sGet (L : Nat) (xs : Nat → Int32) (i : Int32) : Option Int32 := if i < 0 ∨ L ≤ i.toNatClampNeg then none else some (xs i.toNatClampNeg)
theorem rv_sld {L : Nat} {xs : Nat → Int32} {i : Int32} {F : Int32 → Option α} (hd : decode M.2.1 pc = .ok (.iaload, 1)) (h : (sGet L xs i).bind F = some res) (kk : ∀ x, F x = some res → rEvZ (rZl L xs) M d k n (pc + 1) l (.int x :: st) w Q) : rEvZ (rZl L xs) M d k n pc l (.int i :: .float 7000 :: st) w Q := by
  obtain ⟨x, hx, h⟩ := rBind h
  unfold sGet at hx
  split at hx
  · cases hx
  rename_i hi
  cases hx
  intro p lau e R s m args below meth c G H locs cells slots mc ms ls Qm X hl hE
  have hz := X.2.1.2.2.2
  have hX := X.2.2.2.1.2.1.2.2.2
  refine va_sld X.1.1 X.1.2.1 hX.1 (Nat.lt_of_lt_of_le hX.2 X.2.2.2.1.2.2.1) (Nat.not_le.mpr hX.2) X.2.2.2.2.2 (by rw [hz.1]; exact hi) hd ?_
  rw [hz.2]
  exact kk _ h p lau e R s m args below meth c G H locs cells slots mc ms ls Qm X hl hE
theorem rv_slen {L : Nat} {xs : Nat → Int32} (hL : L < 2 ^ 31) (hd : decode M.2.1 pc = .ok (.arraylength, 1)) (kk : rEvZ (rZl L xs) M d k n (pc + 1) l (.int (nI L) :: st) w Q) : rEvZ (rZl L xs) M d k n pc l (.float 7000 :: st) w Q := by
  intro p lau e R s m args below meth c G H locs cells slots mc ms ls Qm X hl hE
  have hz := X.2.1.2.2.2
  have hX := X.2.2.2.1.2.1.2.2.2
  refine va_slen X.1.1 X.1.2.1 hX.1 (Nat.lt_of_lt_of_le hX.2 X.2.2.2.1.2.2.1) (Nat.not_le.mpr hX.2) X.2.2.2.2.2 hd ?_
  rw [hz.1]
  exact kk p lau e R s m args below meth c G H locs cells slots mc ms ls Qm X hl hE
end RULES

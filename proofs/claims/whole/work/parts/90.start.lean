/-! THE CLAIM OUT OF ONE WALK OF THE LAW'S BODY. Your part is whole_start (and what it stands on); all else here is the same for every law, but numbers. -/
def R_law : String := "TradedDesignsLaw"
def lw_P (b : Addr) (xs : List Int32) (args : Array Value) (s : State) : Prop := args = #[.ref b] ∧ s.IntsAt b xs ∧ xs.length ≤ 3072 ∧ (Jvm.Cond.and given_1 narrow_1).before args s = true
def lw_Q (_ : Array Value) (s : State) (o : Outcome) (t : State) : Prop := o = .returned (some (.int 1)) ∧ Framed s o t [] 600000 7302250
def lw_Z (below : List Frame) (a : Array Value) (s : State) : State → Prop := fun t => ∃ o, t.status = .running ∧ Ended t below o ∧ lw_Q a s o t
/-- the law's own end, with 1 on the stack, nothing written that was there before, its room as the claim has it -/
theorem lw_ret {p : Program} {l : Launch} {e : Env} {s : State} {m : MethodId} {below : List Frame} {meth : Method} {c : Code} {b : Nat} (hx : p.tables.exec = Jvm.exec) (hb : c.code = code) (hr : meth.sig.returnType = ret) (hlocks : meth.locks = false) {pc : Nat} {H : Heap} {ls : Array Slot} (hdg : decode code pc = .ok (.ireturn, 1)) : W p l e room_1 s m #[Value.ref b] below meth c H [] 600000 7302250 (lw_Z below #[Value.ref b] s) (F0 m pc ls [.int 1]) := by
  intro T hT X
  obtain ⟨fs, hret, hrun, hended, hW, hframe⟩ := X.leave (v := some (.int 1)) (hlocks := hlocks) (fun h => by rw [hr] at h; cases h)
  have hmeth' : T.vm.method? m = some meth := X.method'
  refine ⟨T.setFrames fs, ?_, .returned (some (.int 1)), hrun, hended, rfl, ⟨_, rfl⟩, hW, hframe⟩
  jvm_step X.here [X.here.top, hx, hb, hdg, hmeth', hr, ret, narrow_b1]
  (try refine ⟨rfl, ?_⟩); (try refine ⟨rfl, ?_⟩)
  first | (intro acts; rw [hret _ acts rfl rfl rfl]) | rw [hret _ _ rfl rfl rfl]
  exact Steps.refl _
/-- what holds at the law's entry: the machine, the code, the tables' words (any of lw_tbl by 'hts w (by decide +kernel)'), the script of L ints xs at the cell b, what the Statement gives of the start (any of its parts by flat_of_before) -/
def lw_At (p : Program) (s : State) (m : MethodId) (meth : Method) (c : Code) (b L : Nat) (xs : Nat → Int32) : Prop :=
  p.tables.exec = Jvm.exec ∧ c.code = code ∧ meth.sig.returnType = ret ∧ c.maxLocals = 4 ∧ s.vm.findClass R_law = some m.cls ∧ (∀ w ∈ lw_tbl, w.before #[Value.ref b] s = true) ∧ va_X b L xs s s.heap ∧ b < s.heap.size ∧ meth.locks = false ∧ (Jvm.Cond.and given_1 narrow_1).before #[Value.ref b] s = true
def rTq : List (String × Nat) := [("TradedDesigns$SetUp", 69), ("TradedDesigns$SetUp", 71), ("TradedDesigns$SetUp", 73), ("TradedDesigns$SetUp", 75), ("TradedDesigns$SetUp", 77), ("TradedDesigns$SetUp", 79), ("TradedDesigns$SetUp", 81), ("TradedDesigns$SetUp", 83), ("TradedDesignsModel", 215), ("TradedDesignsModel", 221), ("TradedDesignsModel", 225), ("TradedDesignsModel", 227)]
def rTm (i : Nat) : Term := Term.string (rTq.getD i ("", 0)).1 (rTq.getD i ("", 0)).2
abbrev rNw : List Cond := flatC (Jvm.Cond.and given_1 narrow_1)
theorem st_ex : ∀ i, i < 12 → Cond.exactly (rTm i) "java/lang/String" ∈ rNw := by decide +kernel
theorem st_co : ∀ i, i < 12 → Cond.eq (.field (rTm i) "java/lang/String" "coder" "B") (.int 0) ∈ rNw := by decide +kernel
theorem st_ar : ∀ i, i < 12 → Cond.arrayOf (.field (rTm i) "java/lang/String" "value" "[B") .byte ∈ rNw := by decide +kernel
theorem st_le : ∀ i, i < 12 → Cond.eq (.length (.field (rTm i) "java/lang/String" "value" "[B")) (.int (Int32.ofNat (rTxLen.getD i 0))) ∈ rNw := by decide +kernel
theorem st_el : ∀ i, i < 12 → ∀ j, j < rTxLen.getD i 0 → Cond.eq (.elem (.field (rTm i) "java/lang/String" "value" "[B") (.int (Int32.ofNat j))) (.int ((rTxByt.getD i []).getD j 0)) ∈ rNw := by decide +kernel
theorem st_q_0_1 : Cond.not (Cond.eq (rTm 0) (rTm 1)) ∈ rNw := List.mem_of_getElem? (i := 26) rfl
theorem st_p_0_1 : (Cond.not (Cond.eq (rTm 0) (rTm 1)) ∈ rNw ∨ Cond.not (Cond.eq (rTm 1) (rTm 0)) ∈ rNw) := Or.inl st_q_0_1
theorem st_q_0_2 : Cond.not (Cond.eq (rTm 0) (rTm 2)) ∈ rNw := List.mem_of_getElem? (i := 36) rfl
theorem st_p_0_2 : (Cond.not (Cond.eq (rTm 0) (rTm 2)) ∈ rNw ∨ Cond.not (Cond.eq (rTm 2) (rTm 0)) ∈ rNw) := Or.inl st_q_0_2
theorem st_q_0_3 : Cond.not (Cond.eq (rTm 0) (rTm 3)) ∈ rNw := List.mem_of_getElem? (i := 45) rfl
theorem st_p_0_3 : (Cond.not (Cond.eq (rTm 0) (rTm 3)) ∈ rNw ∨ Cond.not (Cond.eq (rTm 3) (rTm 0)) ∈ rNw) := Or.inl st_q_0_3
theorem st_q_0_4 : Cond.not (Cond.eq (rTm 0) (rTm 4)) ∈ rNw := List.mem_of_getElem? (i := 56) rfl
theorem st_p_0_4 : (Cond.not (Cond.eq (rTm 0) (rTm 4)) ∈ rNw ∨ Cond.not (Cond.eq (rTm 4) (rTm 0)) ∈ rNw) := Or.inl st_q_0_4
theorem st_q_0_5 : Cond.not (Cond.eq (rTm 0) (rTm 5)) ∈ rNw := List.mem_of_getElem? (i := 68) rfl
theorem st_p_0_5 : (Cond.not (Cond.eq (rTm 0) (rTm 5)) ∈ rNw ∨ Cond.not (Cond.eq (rTm 5) (rTm 0)) ∈ rNw) := Or.inl st_q_0_5
theorem st_q_0_6 : Cond.not (Cond.eq (rTm 0) (rTm 6)) ∈ rNw := List.mem_of_getElem? (i := 81) rfl
theorem st_p_0_6 : (Cond.not (Cond.eq (rTm 0) (rTm 6)) ∈ rNw ∨ Cond.not (Cond.eq (rTm 6) (rTm 0)) ∈ rNw) := Or.inl st_q_0_6
theorem st_q_0_7 : Cond.not (Cond.eq (rTm 0) (rTm 7)) ∈ rNw := List.mem_of_getElem? (i := 97) rfl
theorem st_p_0_7 : (Cond.not (Cond.eq (rTm 0) (rTm 7)) ∈ rNw ∨ Cond.not (Cond.eq (rTm 7) (rTm 0)) ∈ rNw) := Or.inl st_q_0_7
theorem st_q_0_8 : Cond.not (Cond.eq (rTm 0) (rTm 8)) ∈ rNw := List.mem_of_getElem? (i := 111) rfl
theorem st_p_0_8 : (Cond.not (Cond.eq (rTm 0) (rTm 8)) ∈ rNw ∨ Cond.not (Cond.eq (rTm 8) (rTm 0)) ∈ rNw) := Or.inl st_q_0_8
theorem st_q_0_9 : Cond.not (Cond.eq (rTm 0) (rTm 9)) ∈ rNw := List.mem_of_getElem? (i := 126) rfl
theorem st_p_0_9 : (Cond.not (Cond.eq (rTm 0) (rTm 9)) ∈ rNw ∨ Cond.not (Cond.eq (rTm 9) (rTm 0)) ∈ rNw) := Or.inl st_q_0_9
theorem st_q_0_10 : Cond.not (Cond.eq (rTm 0) (rTm 10)) ∈ rNw := List.mem_of_getElem? (i := 162) rfl
theorem st_p_0_10 : (Cond.not (Cond.eq (rTm 0) (rTm 10)) ∈ rNw ∨ Cond.not (Cond.eq (rTm 10) (rTm 0)) ∈ rNw) := Or.inl st_q_0_10
theorem st_q_0_11 : Cond.not (Cond.eq (rTm 0) (rTm 11)) ∈ rNw := List.mem_of_getElem? (i := 180) rfl
theorem st_p_0_11 : (Cond.not (Cond.eq (rTm 0) (rTm 11)) ∈ rNw ∨ Cond.not (Cond.eq (rTm 11) (rTm 0)) ∈ rNw) := Or.inl st_q_0_11
theorem st_q_1_2 : Cond.not (Cond.eq (rTm 1) (rTm 2)) ∈ rNw := List.mem_of_getElem? (i := 37) rfl
theorem st_p_1_2 : (Cond.not (Cond.eq (rTm 1) (rTm 2)) ∈ rNw ∨ Cond.not (Cond.eq (rTm 2) (rTm 1)) ∈ rNw) := Or.inl st_q_1_2
theorem st_q_1_3 : Cond.not (Cond.eq (rTm 1) (rTm 3)) ∈ rNw := List.mem_of_getElem? (i := 46) rfl
theorem st_p_1_3 : (Cond.not (Cond.eq (rTm 1) (rTm 3)) ∈ rNw ∨ Cond.not (Cond.eq (rTm 3) (rTm 1)) ∈ rNw) := Or.inl st_q_1_3
theorem st_q_1_4 : Cond.not (Cond.eq (rTm 1) (rTm 4)) ∈ rNw := List.mem_of_getElem? (i := 57) rfl
theorem st_p_1_4 : (Cond.not (Cond.eq (rTm 1) (rTm 4)) ∈ rNw ∨ Cond.not (Cond.eq (rTm 4) (rTm 1)) ∈ rNw) := Or.inl st_q_1_4
theorem st_q_1_5 : Cond.not (Cond.eq (rTm 1) (rTm 5)) ∈ rNw := List.mem_of_getElem? (i := 69) rfl
theorem st_p_1_5 : (Cond.not (Cond.eq (rTm 1) (rTm 5)) ∈ rNw ∨ Cond.not (Cond.eq (rTm 5) (rTm 1)) ∈ rNw) := Or.inl st_q_1_5
theorem st_q_1_6 : Cond.not (Cond.eq (rTm 1) (rTm 6)) ∈ rNw := List.mem_of_getElem? (i := 82) rfl
theorem st_p_1_6 : (Cond.not (Cond.eq (rTm 1) (rTm 6)) ∈ rNw ∨ Cond.not (Cond.eq (rTm 6) (rTm 1)) ∈ rNw) := Or.inl st_q_1_6
theorem st_q_1_7 : Cond.not (Cond.eq (rTm 1) (rTm 7)) ∈ rNw := List.mem_of_getElem? (i := 98) rfl
theorem st_p_1_7 : (Cond.not (Cond.eq (rTm 1) (rTm 7)) ∈ rNw ∨ Cond.not (Cond.eq (rTm 7) (rTm 1)) ∈ rNw) := Or.inl st_q_1_7
theorem st_q_1_8 : Cond.not (Cond.eq (rTm 1) (rTm 8)) ∈ rNw := List.mem_of_getElem? (i := 112) rfl
theorem st_p_1_8 : (Cond.not (Cond.eq (rTm 1) (rTm 8)) ∈ rNw ∨ Cond.not (Cond.eq (rTm 8) (rTm 1)) ∈ rNw) := Or.inl st_q_1_8
theorem st_q_1_9 : Cond.not (Cond.eq (rTm 1) (rTm 9)) ∈ rNw := List.mem_of_getElem? (i := 127) rfl
theorem st_p_1_9 : (Cond.not (Cond.eq (rTm 1) (rTm 9)) ∈ rNw ∨ Cond.not (Cond.eq (rTm 9) (rTm 1)) ∈ rNw) := Or.inl st_q_1_9
theorem st_q_1_10 : Cond.not (Cond.eq (rTm 1) (rTm 10)) ∈ rNw := List.mem_of_getElem? (i := 163) rfl
theorem st_p_1_10 : (Cond.not (Cond.eq (rTm 1) (rTm 10)) ∈ rNw ∨ Cond.not (Cond.eq (rTm 10) (rTm 1)) ∈ rNw) := Or.inl st_q_1_10
theorem st_q_1_11 : Cond.not (Cond.eq (rTm 1) (rTm 11)) ∈ rNw := List.mem_of_getElem? (i := 181) rfl
theorem st_p_1_11 : (Cond.not (Cond.eq (rTm 1) (rTm 11)) ∈ rNw ∨ Cond.not (Cond.eq (rTm 11) (rTm 1)) ∈ rNw) := Or.inl st_q_1_11
theorem st_q_2_3 : Cond.not (Cond.eq (rTm 2) (rTm 3)) ∈ rNw := List.mem_of_getElem? (i := 47) rfl
theorem st_p_2_3 : (Cond.not (Cond.eq (rTm 2) (rTm 3)) ∈ rNw ∨ Cond.not (Cond.eq (rTm 3) (rTm 2)) ∈ rNw) := Or.inl st_q_2_3
theorem st_q_2_4 : Cond.not (Cond.eq (rTm 2) (rTm 4)) ∈ rNw := List.mem_of_getElem? (i := 58) rfl
theorem st_p_2_4 : (Cond.not (Cond.eq (rTm 2) (rTm 4)) ∈ rNw ∨ Cond.not (Cond.eq (rTm 4) (rTm 2)) ∈ rNw) := Or.inl st_q_2_4
theorem st_q_2_5 : Cond.not (Cond.eq (rTm 2) (rTm 5)) ∈ rNw := List.mem_of_getElem? (i := 70) rfl
theorem st_p_2_5 : (Cond.not (Cond.eq (rTm 2) (rTm 5)) ∈ rNw ∨ Cond.not (Cond.eq (rTm 5) (rTm 2)) ∈ rNw) := Or.inl st_q_2_5
theorem st_q_2_6 : Cond.not (Cond.eq (rTm 2) (rTm 6)) ∈ rNw := List.mem_of_getElem? (i := 83) rfl
theorem st_p_2_6 : (Cond.not (Cond.eq (rTm 2) (rTm 6)) ∈ rNw ∨ Cond.not (Cond.eq (rTm 6) (rTm 2)) ∈ rNw) := Or.inl st_q_2_6
theorem st_q_2_7 : Cond.not (Cond.eq (rTm 2) (rTm 7)) ∈ rNw := List.mem_of_getElem? (i := 99) rfl
theorem st_p_2_7 : (Cond.not (Cond.eq (rTm 2) (rTm 7)) ∈ rNw ∨ Cond.not (Cond.eq (rTm 7) (rTm 2)) ∈ rNw) := Or.inl st_q_2_7
theorem st_q_2_8 : Cond.not (Cond.eq (rTm 2) (rTm 8)) ∈ rNw := List.mem_of_getElem? (i := 113) rfl
theorem st_p_2_8 : (Cond.not (Cond.eq (rTm 2) (rTm 8)) ∈ rNw ∨ Cond.not (Cond.eq (rTm 8) (rTm 2)) ∈ rNw) := Or.inl st_q_2_8
theorem st_q_2_9 : Cond.not (Cond.eq (rTm 2) (rTm 9)) ∈ rNw := List.mem_of_getElem? (i := 128) rfl
theorem st_p_2_9 : (Cond.not (Cond.eq (rTm 2) (rTm 9)) ∈ rNw ∨ Cond.not (Cond.eq (rTm 9) (rTm 2)) ∈ rNw) := Or.inl st_q_2_9
theorem st_q_2_10 : Cond.not (Cond.eq (rTm 2) (rTm 10)) ∈ rNw := List.mem_of_getElem? (i := 164) rfl
theorem st_p_2_10 : (Cond.not (Cond.eq (rTm 2) (rTm 10)) ∈ rNw ∨ Cond.not (Cond.eq (rTm 10) (rTm 2)) ∈ rNw) := Or.inl st_q_2_10
theorem st_q_2_11 : Cond.not (Cond.eq (rTm 2) (rTm 11)) ∈ rNw := List.mem_of_getElem? (i := 182) rfl
theorem st_p_2_11 : (Cond.not (Cond.eq (rTm 2) (rTm 11)) ∈ rNw ∨ Cond.not (Cond.eq (rTm 11) (rTm 2)) ∈ rNw) := Or.inl st_q_2_11
theorem st_q_3_4 : Cond.not (Cond.eq (rTm 3) (rTm 4)) ∈ rNw := List.mem_of_getElem? (i := 59) rfl
theorem st_p_3_4 : (Cond.not (Cond.eq (rTm 3) (rTm 4)) ∈ rNw ∨ Cond.not (Cond.eq (rTm 4) (rTm 3)) ∈ rNw) := Or.inl st_q_3_4
theorem st_q_3_5 : Cond.not (Cond.eq (rTm 3) (rTm 5)) ∈ rNw := List.mem_of_getElem? (i := 71) rfl
theorem st_p_3_5 : (Cond.not (Cond.eq (rTm 3) (rTm 5)) ∈ rNw ∨ Cond.not (Cond.eq (rTm 5) (rTm 3)) ∈ rNw) := Or.inl st_q_3_5
theorem st_q_3_6 : Cond.not (Cond.eq (rTm 3) (rTm 6)) ∈ rNw := List.mem_of_getElem? (i := 84) rfl
theorem st_p_3_6 : (Cond.not (Cond.eq (rTm 3) (rTm 6)) ∈ rNw ∨ Cond.not (Cond.eq (rTm 6) (rTm 3)) ∈ rNw) := Or.inl st_q_3_6
theorem st_q_3_7 : Cond.not (Cond.eq (rTm 3) (rTm 7)) ∈ rNw := List.mem_of_getElem? (i := 100) rfl
theorem st_p_3_7 : (Cond.not (Cond.eq (rTm 3) (rTm 7)) ∈ rNw ∨ Cond.not (Cond.eq (rTm 7) (rTm 3)) ∈ rNw) := Or.inl st_q_3_7
theorem st_q_3_8 : Cond.not (Cond.eq (rTm 3) (rTm 8)) ∈ rNw := List.mem_of_getElem? (i := 114) rfl
theorem st_p_3_8 : (Cond.not (Cond.eq (rTm 3) (rTm 8)) ∈ rNw ∨ Cond.not (Cond.eq (rTm 8) (rTm 3)) ∈ rNw) := Or.inl st_q_3_8
theorem st_q_3_9 : Cond.not (Cond.eq (rTm 3) (rTm 9)) ∈ rNw := List.mem_of_getElem? (i := 129) rfl
theorem st_p_3_9 : (Cond.not (Cond.eq (rTm 3) (rTm 9)) ∈ rNw ∨ Cond.not (Cond.eq (rTm 9) (rTm 3)) ∈ rNw) := Or.inl st_q_3_9
theorem st_q_3_10 : Cond.not (Cond.eq (rTm 3) (rTm 10)) ∈ rNw := List.mem_of_getElem? (i := 165) rfl
theorem st_p_3_10 : (Cond.not (Cond.eq (rTm 3) (rTm 10)) ∈ rNw ∨ Cond.not (Cond.eq (rTm 10) (rTm 3)) ∈ rNw) := Or.inl st_q_3_10
theorem st_q_3_11 : Cond.not (Cond.eq (rTm 3) (rTm 11)) ∈ rNw := List.mem_of_getElem? (i := 183) rfl
theorem st_p_3_11 : (Cond.not (Cond.eq (rTm 3) (rTm 11)) ∈ rNw ∨ Cond.not (Cond.eq (rTm 11) (rTm 3)) ∈ rNw) := Or.inl st_q_3_11
theorem st_q_4_5 : Cond.not (Cond.eq (rTm 4) (rTm 5)) ∈ rNw := List.mem_of_getElem? (i := 72) rfl
theorem st_p_4_5 : (Cond.not (Cond.eq (rTm 4) (rTm 5)) ∈ rNw ∨ Cond.not (Cond.eq (rTm 5) (rTm 4)) ∈ rNw) := Or.inl st_q_4_5
theorem st_q_4_6 : Cond.not (Cond.eq (rTm 4) (rTm 6)) ∈ rNw := List.mem_of_getElem? (i := 85) rfl
theorem st_p_4_6 : (Cond.not (Cond.eq (rTm 4) (rTm 6)) ∈ rNw ∨ Cond.not (Cond.eq (rTm 6) (rTm 4)) ∈ rNw) := Or.inl st_q_4_6
theorem st_q_4_7 : Cond.not (Cond.eq (rTm 4) (rTm 7)) ∈ rNw := List.mem_of_getElem? (i := 101) rfl
theorem st_p_4_7 : (Cond.not (Cond.eq (rTm 4) (rTm 7)) ∈ rNw ∨ Cond.not (Cond.eq (rTm 7) (rTm 4)) ∈ rNw) := Or.inl st_q_4_7
theorem st_q_4_8 : Cond.not (Cond.eq (rTm 4) (rTm 8)) ∈ rNw := List.mem_of_getElem? (i := 115) rfl
theorem st_p_4_8 : (Cond.not (Cond.eq (rTm 4) (rTm 8)) ∈ rNw ∨ Cond.not (Cond.eq (rTm 8) (rTm 4)) ∈ rNw) := Or.inl st_q_4_8
theorem st_q_4_9 : Cond.not (Cond.eq (rTm 4) (rTm 9)) ∈ rNw := List.mem_of_getElem? (i := 130) rfl
theorem st_p_4_9 : (Cond.not (Cond.eq (rTm 4) (rTm 9)) ∈ rNw ∨ Cond.not (Cond.eq (rTm 9) (rTm 4)) ∈ rNw) := Or.inl st_q_4_9
theorem st_q_4_10 : Cond.not (Cond.eq (rTm 4) (rTm 10)) ∈ rNw := List.mem_of_getElem? (i := 166) rfl
theorem st_p_4_10 : (Cond.not (Cond.eq (rTm 4) (rTm 10)) ∈ rNw ∨ Cond.not (Cond.eq (rTm 10) (rTm 4)) ∈ rNw) := Or.inl st_q_4_10
theorem st_q_4_11 : Cond.not (Cond.eq (rTm 4) (rTm 11)) ∈ rNw := List.mem_of_getElem? (i := 184) rfl
theorem st_p_4_11 : (Cond.not (Cond.eq (rTm 4) (rTm 11)) ∈ rNw ∨ Cond.not (Cond.eq (rTm 11) (rTm 4)) ∈ rNw) := Or.inl st_q_4_11
theorem st_q_5_6 : Cond.not (Cond.eq (rTm 5) (rTm 6)) ∈ rNw := List.mem_of_getElem? (i := 86) rfl
theorem st_p_5_6 : (Cond.not (Cond.eq (rTm 5) (rTm 6)) ∈ rNw ∨ Cond.not (Cond.eq (rTm 6) (rTm 5)) ∈ rNw) := Or.inl st_q_5_6
theorem st_q_5_7 : Cond.not (Cond.eq (rTm 5) (rTm 7)) ∈ rNw := List.mem_of_getElem? (i := 102) rfl
theorem st_p_5_7 : (Cond.not (Cond.eq (rTm 5) (rTm 7)) ∈ rNw ∨ Cond.not (Cond.eq (rTm 7) (rTm 5)) ∈ rNw) := Or.inl st_q_5_7
theorem st_q_5_8 : Cond.not (Cond.eq (rTm 5) (rTm 8)) ∈ rNw := List.mem_of_getElem? (i := 116) rfl
theorem st_p_5_8 : (Cond.not (Cond.eq (rTm 5) (rTm 8)) ∈ rNw ∨ Cond.not (Cond.eq (rTm 8) (rTm 5)) ∈ rNw) := Or.inl st_q_5_8
theorem st_q_5_9 : Cond.not (Cond.eq (rTm 5) (rTm 9)) ∈ rNw := List.mem_of_getElem? (i := 131) rfl
theorem st_p_5_9 : (Cond.not (Cond.eq (rTm 5) (rTm 9)) ∈ rNw ∨ Cond.not (Cond.eq (rTm 9) (rTm 5)) ∈ rNw) := Or.inl st_q_5_9
theorem st_q_5_10 : Cond.not (Cond.eq (rTm 5) (rTm 10)) ∈ rNw := List.mem_of_getElem? (i := 167) rfl
theorem st_p_5_10 : (Cond.not (Cond.eq (rTm 5) (rTm 10)) ∈ rNw ∨ Cond.not (Cond.eq (rTm 10) (rTm 5)) ∈ rNw) := Or.inl st_q_5_10
theorem st_q_5_11 : Cond.not (Cond.eq (rTm 5) (rTm 11)) ∈ rNw := List.mem_of_getElem? (i := 185) rfl
theorem st_p_5_11 : (Cond.not (Cond.eq (rTm 5) (rTm 11)) ∈ rNw ∨ Cond.not (Cond.eq (rTm 11) (rTm 5)) ∈ rNw) := Or.inl st_q_5_11
theorem st_q_6_7 : Cond.not (Cond.eq (rTm 6) (rTm 7)) ∈ rNw := List.mem_of_getElem? (i := 103) rfl
theorem st_p_6_7 : (Cond.not (Cond.eq (rTm 6) (rTm 7)) ∈ rNw ∨ Cond.not (Cond.eq (rTm 7) (rTm 6)) ∈ rNw) := Or.inl st_q_6_7
theorem st_q_6_8 : Cond.not (Cond.eq (rTm 6) (rTm 8)) ∈ rNw := List.mem_of_getElem? (i := 117) rfl
theorem st_p_6_8 : (Cond.not (Cond.eq (rTm 6) (rTm 8)) ∈ rNw ∨ Cond.not (Cond.eq (rTm 8) (rTm 6)) ∈ rNw) := Or.inl st_q_6_8
theorem st_q_6_9 : Cond.not (Cond.eq (rTm 6) (rTm 9)) ∈ rNw := List.mem_of_getElem? (i := 132) rfl
theorem st_p_6_9 : (Cond.not (Cond.eq (rTm 6) (rTm 9)) ∈ rNw ∨ Cond.not (Cond.eq (rTm 9) (rTm 6)) ∈ rNw) := Or.inl st_q_6_9
theorem st_q_6_10 : Cond.not (Cond.eq (rTm 6) (rTm 10)) ∈ rNw := List.mem_of_getElem? (i := 168) rfl
theorem st_p_6_10 : (Cond.not (Cond.eq (rTm 6) (rTm 10)) ∈ rNw ∨ Cond.not (Cond.eq (rTm 10) (rTm 6)) ∈ rNw) := Or.inl st_q_6_10
theorem st_q_6_11 : Cond.not (Cond.eq (rTm 6) (rTm 11)) ∈ rNw := List.mem_of_getElem? (i := 186) rfl
theorem st_p_6_11 : (Cond.not (Cond.eq (rTm 6) (rTm 11)) ∈ rNw ∨ Cond.not (Cond.eq (rTm 11) (rTm 6)) ∈ rNw) := Or.inl st_q_6_11
theorem st_q_7_8 : Cond.not (Cond.eq (rTm 7) (rTm 8)) ∈ rNw := List.mem_of_getElem? (i := 118) rfl
theorem st_p_7_8 : (Cond.not (Cond.eq (rTm 7) (rTm 8)) ∈ rNw ∨ Cond.not (Cond.eq (rTm 8) (rTm 7)) ∈ rNw) := Or.inl st_q_7_8
theorem st_q_7_9 : Cond.not (Cond.eq (rTm 7) (rTm 9)) ∈ rNw := List.mem_of_getElem? (i := 133) rfl
theorem st_p_7_9 : (Cond.not (Cond.eq (rTm 7) (rTm 9)) ∈ rNw ∨ Cond.not (Cond.eq (rTm 9) (rTm 7)) ∈ rNw) := Or.inl st_q_7_9
theorem st_q_7_10 : Cond.not (Cond.eq (rTm 7) (rTm 10)) ∈ rNw := List.mem_of_getElem? (i := 169) rfl
theorem st_p_7_10 : (Cond.not (Cond.eq (rTm 7) (rTm 10)) ∈ rNw ∨ Cond.not (Cond.eq (rTm 10) (rTm 7)) ∈ rNw) := Or.inl st_q_7_10
theorem st_q_7_11 : Cond.not (Cond.eq (rTm 7) (rTm 11)) ∈ rNw := List.mem_of_getElem? (i := 187) rfl
theorem st_p_7_11 : (Cond.not (Cond.eq (rTm 7) (rTm 11)) ∈ rNw ∨ Cond.not (Cond.eq (rTm 11) (rTm 7)) ∈ rNw) := Or.inl st_q_7_11
theorem st_q_8_9 : Cond.not (Cond.eq (rTm 8) (rTm 9)) ∈ rNw := List.mem_of_getElem? (i := 134) rfl
theorem st_p_8_9 : (Cond.not (Cond.eq (rTm 8) (rTm 9)) ∈ rNw ∨ Cond.not (Cond.eq (rTm 9) (rTm 8)) ∈ rNw) := Or.inl st_q_8_9
theorem st_q_8_10 : Cond.not (Cond.eq (rTm 8) (rTm 10)) ∈ rNw := List.mem_of_getElem? (i := 170) rfl
theorem st_p_8_10 : (Cond.not (Cond.eq (rTm 8) (rTm 10)) ∈ rNw ∨ Cond.not (Cond.eq (rTm 10) (rTm 8)) ∈ rNw) := Or.inl st_q_8_10
theorem st_q_8_11 : Cond.not (Cond.eq (rTm 8) (rTm 11)) ∈ rNw := List.mem_of_getElem? (i := 188) rfl
theorem st_p_8_11 : (Cond.not (Cond.eq (rTm 8) (rTm 11)) ∈ rNw ∨ Cond.not (Cond.eq (rTm 11) (rTm 8)) ∈ rNw) := Or.inl st_q_8_11
theorem st_q_9_10 : Cond.not (Cond.eq (rTm 9) (rTm 10)) ∈ rNw := List.mem_of_getElem? (i := 171) rfl
theorem st_p_9_10 : (Cond.not (Cond.eq (rTm 9) (rTm 10)) ∈ rNw ∨ Cond.not (Cond.eq (rTm 10) (rTm 9)) ∈ rNw) := Or.inl st_q_9_10
theorem st_q_9_11 : Cond.not (Cond.eq (rTm 9) (rTm 11)) ∈ rNw := List.mem_of_getElem? (i := 189) rfl
theorem st_p_9_11 : (Cond.not (Cond.eq (rTm 9) (rTm 11)) ∈ rNw ∨ Cond.not (Cond.eq (rTm 11) (rTm 9)) ∈ rNw) := Or.inl st_q_9_11
theorem st_q_10_11 : Cond.not (Cond.eq (rTm 10) (rTm 11)) ∈ rNw := List.mem_of_getElem? (i := 191) rfl
theorem st_p_10_11 : (Cond.not (Cond.eq (rTm 10) (rTm 11)) ∈ rNw ∨ Cond.not (Cond.eq (rTm 11) (rTm 10)) ∈ rNw) := Or.inl st_q_10_11
theorem st_n_0 : ∀ j, j < 12 → 0 ≠ j → (Cond.not (Cond.eq (rTm 0) (rTm j)) ∈ rNw ∨ Cond.not (Cond.eq (rTm j) (rTm 0)) ∈ rNw) := fun j hj hij => match j, hj, hij with
  | 0, _, h => absurd rfl h
  | 1, _, h => st_p_0_1
  | 2, _, h => st_p_0_2
  | 3, _, h => st_p_0_3
  | 4, _, h => st_p_0_4
  | 5, _, h => st_p_0_5
  | 6, _, h => st_p_0_6
  | 7, _, h => st_p_0_7
  | 8, _, h => st_p_0_8
  | 9, _, h => st_p_0_9
  | 10, _, h => st_p_0_10
  | 11, _, h => st_p_0_11
  | j + 12, h, _ => absurd h (by omega)
theorem st_n_1 : ∀ j, j < 12 → 1 ≠ j → (Cond.not (Cond.eq (rTm 1) (rTm j)) ∈ rNw ∨ Cond.not (Cond.eq (rTm j) (rTm 1)) ∈ rNw) := fun j hj hij => match j, hj, hij with
  | 0, _, h => (st_p_0_1).symm
  | 1, _, h => absurd rfl h
  | 2, _, h => st_p_1_2
  | 3, _, h => st_p_1_3
  | 4, _, h => st_p_1_4
  | 5, _, h => st_p_1_5
  | 6, _, h => st_p_1_6
  | 7, _, h => st_p_1_7
  | 8, _, h => st_p_1_8
  | 9, _, h => st_p_1_9
  | 10, _, h => st_p_1_10
  | 11, _, h => st_p_1_11
  | j + 12, h, _ => absurd h (by omega)
theorem st_n_2 : ∀ j, j < 12 → 2 ≠ j → (Cond.not (Cond.eq (rTm 2) (rTm j)) ∈ rNw ∨ Cond.not (Cond.eq (rTm j) (rTm 2)) ∈ rNw) := fun j hj hij => match j, hj, hij with
  | 0, _, h => (st_p_0_2).symm
  | 1, _, h => (st_p_1_2).symm
  | 2, _, h => absurd rfl h
  | 3, _, h => st_p_2_3
  | 4, _, h => st_p_2_4
  | 5, _, h => st_p_2_5
  | 6, _, h => st_p_2_6
  | 7, _, h => st_p_2_7
  | 8, _, h => st_p_2_8
  | 9, _, h => st_p_2_9
  | 10, _, h => st_p_2_10
  | 11, _, h => st_p_2_11
  | j + 12, h, _ => absurd h (by omega)
theorem st_n_3 : ∀ j, j < 12 → 3 ≠ j → (Cond.not (Cond.eq (rTm 3) (rTm j)) ∈ rNw ∨ Cond.not (Cond.eq (rTm j) (rTm 3)) ∈ rNw) := fun j hj hij => match j, hj, hij with
  | 0, _, h => (st_p_0_3).symm
  | 1, _, h => (st_p_1_3).symm
  | 2, _, h => (st_p_2_3).symm
  | 3, _, h => absurd rfl h
  | 4, _, h => st_p_3_4
  | 5, _, h => st_p_3_5
  | 6, _, h => st_p_3_6
  | 7, _, h => st_p_3_7
  | 8, _, h => st_p_3_8
  | 9, _, h => st_p_3_9
  | 10, _, h => st_p_3_10
  | 11, _, h => st_p_3_11
  | j + 12, h, _ => absurd h (by omega)
theorem st_n_4 : ∀ j, j < 12 → 4 ≠ j → (Cond.not (Cond.eq (rTm 4) (rTm j)) ∈ rNw ∨ Cond.not (Cond.eq (rTm j) (rTm 4)) ∈ rNw) := fun j hj hij => match j, hj, hij with
  | 0, _, h => (st_p_0_4).symm
  | 1, _, h => (st_p_1_4).symm
  | 2, _, h => (st_p_2_4).symm
  | 3, _, h => (st_p_3_4).symm
  | 4, _, h => absurd rfl h
  | 5, _, h => st_p_4_5
  | 6, _, h => st_p_4_6
  | 7, _, h => st_p_4_7
  | 8, _, h => st_p_4_8
  | 9, _, h => st_p_4_9
  | 10, _, h => st_p_4_10
  | 11, _, h => st_p_4_11
  | j + 12, h, _ => absurd h (by omega)
theorem st_n_5 : ∀ j, j < 12 → 5 ≠ j → (Cond.not (Cond.eq (rTm 5) (rTm j)) ∈ rNw ∨ Cond.not (Cond.eq (rTm j) (rTm 5)) ∈ rNw) := fun j hj hij => match j, hj, hij with
  | 0, _, h => (st_p_0_5).symm
  | 1, _, h => (st_p_1_5).symm
  | 2, _, h => (st_p_2_5).symm
  | 3, _, h => (st_p_3_5).symm
  | 4, _, h => (st_p_4_5).symm
  | 5, _, h => absurd rfl h
  | 6, _, h => st_p_5_6
  | 7, _, h => st_p_5_7
  | 8, _, h => st_p_5_8
  | 9, _, h => st_p_5_9
  | 10, _, h => st_p_5_10
  | 11, _, h => st_p_5_11
  | j + 12, h, _ => absurd h (by omega)
theorem st_n_6 : ∀ j, j < 12 → 6 ≠ j → (Cond.not (Cond.eq (rTm 6) (rTm j)) ∈ rNw ∨ Cond.not (Cond.eq (rTm j) (rTm 6)) ∈ rNw) := fun j hj hij => match j, hj, hij with
  | 0, _, h => (st_p_0_6).symm
  | 1, _, h => (st_p_1_6).symm
  | 2, _, h => (st_p_2_6).symm
  | 3, _, h => (st_p_3_6).symm
  | 4, _, h => (st_p_4_6).symm
  | 5, _, h => (st_p_5_6).symm
  | 6, _, h => absurd rfl h
  | 7, _, h => st_p_6_7
  | 8, _, h => st_p_6_8
  | 9, _, h => st_p_6_9
  | 10, _, h => st_p_6_10
  | 11, _, h => st_p_6_11
  | j + 12, h, _ => absurd h (by omega)
theorem st_n_7 : ∀ j, j < 12 → 7 ≠ j → (Cond.not (Cond.eq (rTm 7) (rTm j)) ∈ rNw ∨ Cond.not (Cond.eq (rTm j) (rTm 7)) ∈ rNw) := fun j hj hij => match j, hj, hij with
  | 0, _, h => (st_p_0_7).symm
  | 1, _, h => (st_p_1_7).symm
  | 2, _, h => (st_p_2_7).symm
  | 3, _, h => (st_p_3_7).symm
  | 4, _, h => (st_p_4_7).symm
  | 5, _, h => (st_p_5_7).symm
  | 6, _, h => (st_p_6_7).symm
  | 7, _, h => absurd rfl h
  | 8, _, h => st_p_7_8
  | 9, _, h => st_p_7_9
  | 10, _, h => st_p_7_10
  | 11, _, h => st_p_7_11
  | j + 12, h, _ => absurd h (by omega)
theorem st_n_8 : ∀ j, j < 12 → 8 ≠ j → (Cond.not (Cond.eq (rTm 8) (rTm j)) ∈ rNw ∨ Cond.not (Cond.eq (rTm j) (rTm 8)) ∈ rNw) := fun j hj hij => match j, hj, hij with
  | 0, _, h => (st_p_0_8).symm
  | 1, _, h => (st_p_1_8).symm
  | 2, _, h => (st_p_2_8).symm
  | 3, _, h => (st_p_3_8).symm
  | 4, _, h => (st_p_4_8).symm
  | 5, _, h => (st_p_5_8).symm
  | 6, _, h => (st_p_6_8).symm
  | 7, _, h => (st_p_7_8).symm
  | 8, _, h => absurd rfl h
  | 9, _, h => st_p_8_9
  | 10, _, h => st_p_8_10
  | 11, _, h => st_p_8_11
  | j + 12, h, _ => absurd h (by omega)
theorem st_n_9 : ∀ j, j < 12 → 9 ≠ j → (Cond.not (Cond.eq (rTm 9) (rTm j)) ∈ rNw ∨ Cond.not (Cond.eq (rTm j) (rTm 9)) ∈ rNw) := fun j hj hij => match j, hj, hij with
  | 0, _, h => (st_p_0_9).symm
  | 1, _, h => (st_p_1_9).symm
  | 2, _, h => (st_p_2_9).symm
  | 3, _, h => (st_p_3_9).symm
  | 4, _, h => (st_p_4_9).symm
  | 5, _, h => (st_p_5_9).symm
  | 6, _, h => (st_p_6_9).symm
  | 7, _, h => (st_p_7_9).symm
  | 8, _, h => (st_p_8_9).symm
  | 9, _, h => absurd rfl h
  | 10, _, h => st_p_9_10
  | 11, _, h => st_p_9_11
  | j + 12, h, _ => absurd h (by omega)
theorem st_n_10 : ∀ j, j < 12 → 10 ≠ j → (Cond.not (Cond.eq (rTm 10) (rTm j)) ∈ rNw ∨ Cond.not (Cond.eq (rTm j) (rTm 10)) ∈ rNw) := fun j hj hij => match j, hj, hij with
  | 0, _, h => (st_p_0_10).symm
  | 1, _, h => (st_p_1_10).symm
  | 2, _, h => (st_p_2_10).symm
  | 3, _, h => (st_p_3_10).symm
  | 4, _, h => (st_p_4_10).symm
  | 5, _, h => (st_p_5_10).symm
  | 6, _, h => (st_p_6_10).symm
  | 7, _, h => (st_p_7_10).symm
  | 8, _, h => (st_p_8_10).symm
  | 9, _, h => (st_p_9_10).symm
  | 10, _, h => absurd rfl h
  | 11, _, h => st_p_10_11
  | j + 12, h, _ => absurd h (by omega)
theorem st_n_11 : ∀ j, j < 12 → 11 ≠ j → (Cond.not (Cond.eq (rTm 11) (rTm j)) ∈ rNw ∨ Cond.not (Cond.eq (rTm j) (rTm 11)) ∈ rNw) := fun j hj hij => match j, hj, hij with
  | 0, _, h => (st_p_0_11).symm
  | 1, _, h => (st_p_1_11).symm
  | 2, _, h => (st_p_2_11).symm
  | 3, _, h => (st_p_3_11).symm
  | 4, _, h => (st_p_4_11).symm
  | 5, _, h => (st_p_5_11).symm
  | 6, _, h => (st_p_6_11).symm
  | 7, _, h => (st_p_7_11).symm
  | 8, _, h => (st_p_8_11).symm
  | 9, _, h => (st_p_9_11).symm
  | 10, _, h => (st_p_10_11).symm
  | 11, _, h => absurd rfl h
  | j + 12, h, _ => absurd h (by omega)
theorem st_ne : ∀ i j, i < 12 → j < 12 → i ≠ j → (Cond.not (Cond.eq (rTm i) (rTm j)) ∈ rNw ∨ Cond.not (Cond.eq (rTm j) (rTm i)) ∈ rNw) := fun i j hi hj hij => match i, hi, hij with
  | 0, _, h => st_n_0 j hj h
  | 1, _, h => st_n_1 j hj h
  | 2, _, h => st_n_2 j hj h
  | 3, _, h => st_n_3 j hj h
  | 4, _, h => st_n_4 j hj h
  | 5, _, h => st_n_5 j hj h
  | 6, _, h => st_n_6 j hj h
  | 7, _, h => st_n_7 j hj h
  | 8, _, h => st_n_8 j hj h
  | 9, _, h => st_n_9 j hj h
  | 10, _, h => st_n_10 j hj h
  | 11, _, h => st_n_11 j hj h
  | i + 12, h, _ => absurd h (by omega)
theorem st_dup0 : Cond.eq (Term.string "TradedDesigns$SetUp" 71) (Term.string "TradedDesignsModel" 223) ∈ rNw := by decide +kernel
theorem st_dup1 : Cond.eq (Term.string "TradedDesigns$SetUp" 75) (Term.string "TradedDesignsModel" 229) ∈ rNw := by decide +kernel
theorem st_dup2 : Cond.eq (Term.string "TradedDesigns$SetUp" 81) (Term.string "TradedDesignsModel" 231) ∈ rNw := by decide +kernel
theorem st_dup3 : Cond.eq (Term.string "TradedDesigns$SetUp" 83) (Term.string "TradedDesignsModel" 233) ∈ rNw := by decide +kernel
theorem st_cs : Cond.eq (.static "java/lang/String" "COMPACT_STRINGS" "Z") (.int 1) ∈ rNw := by decide +kernel
theorem st_sf : Cond.isRef (.static "jdk/internal/util/Preconditions" "SIOOBE_FORMATTER" "Ljava/util/function/BiFunction;") ∈ rNw := by decide +kernel
theorem st_nest0 : (Cond.methodLinkNest RX6 9 yX0_init "TradedDesigns") ∈ lw_tbl := tb_1 (List.mem_of_getElem? (i := 36) rfl)
theorem st_nest1 : (Cond.methodLinkNest RX9 40 yX8_init "TradedDesigns") ∈ lw_tbl := tb_1 (List.mem_of_getElem? (i := 157) rfl)
theorem st_nest2 : (Cond.methodLinkNest RX9 47 yX1_init "TradedDesigns") ∈ lw_tbl := tb_1 (List.mem_of_getElem? (i := 176) rfl)
theorem st_nest3 : (Cond.methodLinkNest RX1 9 yX8_init "TradedDesigns") ∈ lw_tbl := tb_1 (List.mem_of_getElem? (i := 181) rfl)
theorem st_nest4 : (Cond.methodLinkNest RX9 54 yX2_init "TradedDesigns") ∈ lw_tbl := tb_1 (List.mem_of_getElem? (i := 200) rfl)
theorem st_nest5 : (Cond.methodLinkNest RX9 61 yX4_init "TradedDesigns") ∈ lw_tbl := tb_1 (List.mem_of_getElem? (i := 233) rfl)
theorem st_nest6 : (Cond.methodLinkNest RX9 72 yX7_init "TradedDesigns") ∈ lw_tbl := tb_2 (List.mem_of_getElem? (i := 22) rfl)
theorem st_nest7 : (Cond.methodLinkNest RX5 59 yX9_isCount "TradedDesigns") ∈ lw_tbl := tb_2 (List.mem_of_getElem? (i := 135) rfl)
theorem st_nest8 : (Cond.methodLinkNest RX5 62 yX9_isIn "TradedDesigns") ∈ lw_tbl := tb_2 (List.mem_of_getElem? (i := 177) rfl)
theorem st_nest9 : (Cond.methodLinkNest RX5 69 yX9_withPlacesExchanged "TradedDesigns") ∈ lw_tbl := tb_2 (List.mem_of_getElem? (i := 223) rfl)
theorem st_nest10 : (Cond.methodLinkNest RX1 71 yX9_isIn "TradedDesigns") ∈ lw_tbl := tb_3 (List.mem_of_getElem? (i := 197) rfl)
theorem st_text0 : (Cond.stringRef RX4 69 "size") ∈ lw_tbl := tb_3 (List.mem_of_getElem? (i := 18) rfl)
theorem st_text1 : (Cond.stringRef RX4 71 "count") ∈ lw_tbl := tb_3 (List.mem_of_getElem? (i := 19) rfl)
theorem st_text2 : (Cond.stringRef RX4 73 "twist") ∈ lw_tbl := tb_3 (List.mem_of_getElem? (i := 20) rfl)
theorem st_text3 : (Cond.stringRef RX4 75 "put") ∈ lw_tbl := tb_3 (List.mem_of_getElem? (i := 21) rfl)
theorem st_text4 : (Cond.stringRef RX4 77 "turn") ∈ lw_tbl := tb_3 (List.mem_of_getElem? (i := 22) rfl)
theorem st_text5 : (Cond.stringRef RX4 79 "swap") ∈ lw_tbl := tb_3 (List.mem_of_getElem? (i := 23) rfl)
theorem st_text6 : (Cond.stringRef RX4 81 "keep") ∈ lw_tbl := tb_3 (List.mem_of_getElem? (i := 24) rfl)
theorem st_text7 : (Cond.stringRef RX4 83 "differ") ∈ lw_tbl := tb_3 (List.mem_of_getElem? (i := 25) rfl)
theorem st_text8 : (Cond.stringRef RX10 215 "wap") ∈ lw_tbl := tb_5 (List.mem_of_getElem? (i := 187) rfl)
theorem st_text9 : (Cond.stringRef RX10 221 "ize") ∈ lw_tbl := tb_5 (List.mem_of_getElem? (i := 194) rfl)
theorem st_text10 : (Cond.stringRef RX10 223 "count") ∈ lw_tbl := tb_5 (List.mem_of_getElem? (i := 195) rfl)
theorem st_text11 : (Cond.stringRef RX10 225 "wist") ∈ lw_tbl := tb_5 (List.mem_of_getElem? (i := 196) rfl)
theorem st_text12 : (Cond.stringRef RX10 227 "urn") ∈ lw_tbl := tb_5 (List.mem_of_getElem? (i := 197) rfl)
theorem st_text13 : (Cond.stringRef RX10 229 "put") ∈ lw_tbl := tb_5 (List.mem_of_getElem? (i := 198) rfl)
theorem st_text14 : (Cond.stringRef RX10 231 "keep") ∈ lw_tbl := tb_5 (List.mem_of_getElem? (i := 199) rfl)
theorem st_text15 : (Cond.stringRef RX10 233 "differ") ∈ lw_tbl := tb_5 (List.mem_of_getElem? (i := 200) rfl)
theorem st_over : (Cond.arrayOver (.object "TradedDesigns$Tape")) ∈ lw_tbl := tb_2 (List.mem_of_getElem? (i := 20) rfl)
theorem st_lcs : (Cond.laysStatic "java/lang/String" "COMPACT_STRINGS" "Z") ∈ lw_tbl := tb_3 (List.mem_of_getElem? (i := 39) rfl)
theorem st_lsf : (Cond.laysStatic "jdk/internal/util/Preconditions" "SIOOBE_FORMATTER" "Ljava/util/function/BiFunction;") ∈ lw_tbl := tb_3 (List.mem_of_getElem? (i := 55) rfl)
theorem st_same {args : Array Value} {s : State} {t u : Term} {a : Nat} (h : (Cond.eq t u).before args s = true) (ht : t.eval args s none [] s = some (.ref a)) : u.eval args s none [] s = some (.ref a) := by
  simp only [Cond.before, Cond.holds, Cond.value, ht] at h
  cases hu : u.eval args s none [] s with
  | none => simp [hu] at h
  | some x => cases x <;> simp [hu] at h ⊢ <;> exact h.symm
theorem st_arr {args : Array Value} {s : State} {ty : FieldType} (h : (Cond.arrayClass ty).before args s = true) (hty : ∀ C, ty ≠ .object C) : ∃ cA : ClassId, ArrOfT s cA ty ∧ va_RA s cA ty := by
  obtain ⟨c, k, comp, h1, h2, h3⟩ := Cond.arrayClass_spec h
  refine ⟨c, fun n z => ⟨fun k h => (by cases h), k, h2, comp, h3⟩, ?_⟩
  cases ty with
  | object C => exact absurd rfl (hty C)
  | _ => exact h1
set_option maxHeartbeats 4000000 in
set_option maxRecDepth 20000 in
theorem whole_start {p : Program} {e : Env} {s : State} {m : MethodId} {below : List Frame} {meth : Method} {c : Code} (l : Launch) (hflags : l.flags = flags0) {b L : Nat} {xs : Nat → Int32} (hL : L ≤ 3072) (C0 : lw_At p s m meth c b L xs) : W p l e room_1 s m #[Value.ref b] below meth c s.heap [] 0 0 (lw_Z below #[Value.ref b] s) (entryFrame m ([Value.ref b] : List Value).toArray 4) := by
  obtain ⟨hx, hb, hr, hml, hown, hts, hX, hbl, hlocks, hgv⟩ := id C0
  have hs := flat_of_before _ hgv
  have hA : ∀ q : Nat, q < s.heap.size → ¬ (fun q : Nat => s.heap.size ≤ q) q := fun q h => Nat.not_le.mpr h
  obtain ⟨c0, iS0, hKn0⟩ := u_known (C := RX0) (T := TX0) (N := 6) (n := 6) hts (fun w h => aw_in (fw_X0 w h)) (hts _ (aw_in ib_X0))
  obtain ⟨c1, iS1, hKn1⟩ := u_known (C := RX1) (T := TX1) (N := 4) (n := 4) hts (fun w h => aw_in (fw_X1 w h)) (hts _ (aw_in ib_X1))
  obtain ⟨c2, iS2, hKn2⟩ := u_known (C := RX2) (T := TX2) (N := 8) (n := 8) hts (fun w h => aw_in (fw_X2 w h)) (hts _ (aw_in ib_X2))
  obtain ⟨c3, iS3, hKn3⟩ := u_known (C := RX3) (T := TX3) (N := 3) (n := 3) hts (fun w h => aw_in (fw_X3 w h)) (hts _ (aw_in ib_X3))
  obtain ⟨c4, iS4, hKn4⟩ := u_known (C := RX4) (T := TX4) (N := 6) (n := 6) hts (fun w h => aw_in (fw_X4 w h)) (hts _ (aw_in ib_X4))
  obtain ⟨c5, iS5, hKn5⟩ := u_known (C := RX5) (T := TX5) (N := 4) (n := 4) hts (fun w h => aw_in (fw_X5 w h)) (hts _ (aw_in ib_X5))
  obtain ⟨c6, iS6, hKn6⟩ := u_known (C := RX6) (T := TX6) (N := 5) (n := 5) hts (fun w h => aw_in (fw_X6 w h)) (hts _ (aw_in ib_X6))
  obtain ⟨c7, iS7, hKn7⟩ := u_known (C := RX7) (T := TX7) (N := 3) (n := 3) hts (fun w h => aw_in (fw_X7 w h)) (hts _ (aw_in ib_X7))
  obtain ⟨c8, iS8, hKn8⟩ := u_known (C := RX8) (T := TX8) (N := 3) (n := 3) hts (fun w h => aw_in (fw_X8 w h)) (hts _ (aw_in ib_X8))
  obtain ⟨c9, iS9, hKn9⟩ := u_known (C := RX9) (T := TX9) (N := 9) (n := 9) hts (fun w h => aw_in (fw_X9 w h)) (hts _ (aw_in ib_X9))
  obtain ⟨c10, iS10, hKn10⟩ := u_known (C := RX10) (T := TX10) (N := 42) (n := 42) hts (fun w h => aw_in (fw_X10 w h)) (hts _ (aw_in ib_X10))
  obtain ⟨dC, dI, hKc⟩ : ∃ (dC : Nat → ClassId) (dI : Nat → Nat → Nat), ∀ (k : Nat) (q : vw_C), vwCl[k]? = some q → u_Kn s q.1 q.2.1 q.2.2 (dC k) (dI k) := by
    refine ⟨fun k => if k = 0 then c0 else if k = 1 then c1 else if k = 2 then c2 else if k = 3 then c3 else if k = 4 then c4 else if k = 5 then c5 else if k = 6 then c6 else if k = 7 then c7 else if k = 8 then c8 else if k = 9 then c9 else c10, fun k => if k = 0 then iS0 else if k = 1 then iS1 else if k = 2 then iS2 else if k = 3 then iS3 else if k = 4 then iS4 else if k = 5 then iS5 else if k = 6 then iS6 else if k = 7 then iS7 else if k = 8 then iS8 else if k = 9 then iS9 else iS10, ?_⟩
    intro k q hq
    match k, hq with
    | 0, hq => cases hq; exact hKn0
    | 1, hq => cases hq; exact hKn1
    | 2, hq => cases hq; exact hKn2
    | 3, hq => cases hq; exact hKn3
    | 4, hq => cases hq; exact hKn4
    | 5, hq => cases hq; exact hKn5
    | 6, hq => cases hq; exact hKn6
    | 7, hq => cases hq; exact hKn7
    | 8, hq => cases hq; exact hKn8
    | 9, hq => cases hq; exact hKn9
    | 10, hq => cases hq; exact hKn10
    | k + 11, hq => simp [vwCl] at hq
  obtain ⟨cI, hI1, hI2⟩ := st_arr (hts _ (aw_in ac_int)) (fun C h => by cases h)
  obtain ⟨cJ, hJ1, hJ2⟩ := st_arr (hts _ (aw_in ac_long)) (fun C h => by cases h)
  obtain ⟨comp, cT, kT, hT1, hT2, hT3, hT4, hT5⟩ := Cond.arrayOver_spec (hts _ st_over)
  have hTa : ArrOfT s cT (.object "TradedDesigns$Tape") := fun n z => ⟨fun k h => (by cases h), kT, hT3, comp, hT4⟩
  have hTr : va_RA s cT (.object "TradedDesigns$Tape") := ⟨kT, comp, hT3, hT4, hT1, hT5⟩
  obtain ⟨adK, adV, hSt, hSe⟩ := vk_Sof (args := #[Value.ref b]) (s := s) (N := 12) (tm := rTm) (len := rTxLen) (byt := rTxByt) (A := fun q : Nat => s.heap.size ≤ q) (by decide) (fun i hi => hs _ (st_ex i hi)) (fun i hi => hs _ (st_co i hi)) (fun i hi => hs _ (st_ar i hi)) (fun i hi => hs _ (st_le i hi)) (fun i hi j hj => hs _ (st_el i hi j hj)) (fun i j hi hj hij => (st_ne i j hi hj hij).imp (hs _) (hs _)) hA
  have hCS := va_Zof (A := fun q : Nat => s.heap.size ≤ q) (hts _ st_lcs) (hts _ (aw_in in_J0)) (va_eqi (hs _ st_cs)) hA
  have hSF := va_Zqof (A := fun q : Nat => s.heap.size ≤ q) (hts _ st_lsf) (hts _ (aw_in in_J3)) (hs _ st_sf) hA
  obtain ⟨t, hSF⟩ : ∃ t : Nat, va_Z "jdk/internal/util/Preconditions" "SIOOBE_FORMATTER" "Ljava/util/function/BiFunction;" .null (fun q : Nat => s.heap.size ≤ q) s s.heap ∨ va_Z "jdk/internal/util/Preconditions" "SIOOBE_FORMATTER" "Ljava/util/function/BiFunction;" (.ref t) (fun q : Nat => s.heap.size ≤ q) s s.heap := by
    rcases hSF with h | ⟨t, h⟩
    · exact ⟨0, Or.inl h⟩
    · exact ⟨t, Or.inr h⟩
  obtain ⟨ad, ad1, ad2, ad3, ad4, ad5, ad6⟩ : ∃ ad : Nat → Nat, (∀ i, i < 12 → ad i = adK i) ∧ (∀ i, i < 12 → ad (1000 + i) = adV i) ∧ ad 5000 = t ∧ ad 7000 = b ∧ ad 7001 = L ∧ ∀ j, ad (8000 + j) = (xs j).toUInt32.toNat := by
    refine ⟨fun n => if n < 1000 then adK n else if n < 5000 then adV (n - 1000) else if n = 5000 then t else if n = 7000 then b else if n = 7001 then L else (xs (n - 8000)).toUInt32.toNat, ?_, ?_, ?_, ?_, ?_, ?_⟩
    · intro i hi
      show (if i < 1000 then _ else _) = _
      rw [if_pos (by omega)]
    · intro i hi
      show (if 1000 + i < 1000 then _ else if 1000 + i < 5000 then _ else _) = _
      rw [if_neg (by omega), if_pos (by omega), Nat.add_sub_cancel_left]
    · rfl
    · rfl
    · rfl
    · intro j
      show (if 8000 + j < 1000 then _ else if 8000 + j < 5000 then _ else if 8000 + j = 5000 then _ else if 8000 + j = 7000 then _ else if 8000 + j = 7001 then _ else _) = _
      rw [if_neg (by omega), if_neg (by omega), if_neg (by omega), if_neg (by omega), if_neg (by omega), Nat.add_sub_cancel_left]
  obtain ⟨G, hG⟩ : ∃ G : rG, G = (s.heap.size, (dC, dI), (cI, cJ, cT), ad) := ⟨_, rfl⟩
  have hK : rK G s := by
    rw [hG]
    refine ⟨⟨hKc, fun k q h => ?_⟩, fun q hq => ?_, va_AO.of (hts _ st_over), fun q hq => ?_⟩
    · match k, h with
      | 0, h => cases h; exact ⟨hI1, hI2⟩
      | 1, h => cases h; exact ⟨hJ1, hJ2⟩
      | 2, h => cases h; exact ⟨hTa, hTr⟩
      | k + 3, h => simp [rTys] at h
    · simp only [rNest, List.mem_cons, List.not_mem_nil, or_false] at hq
      rcases hq with rfl | rfl | rfl | rfl | rfl | rfl | rfl | rfl | rfl | rfl | rfl
      · exact va_Nw.of rfl (hts _ st_nest0)
      · exact va_Nw.of rfl (hts _ st_nest1)
      · exact va_Nw.of rfl (hts _ st_nest2)
      · exact va_Nw.of rfl (hts _ st_nest3)
      · exact va_Nw.of rfl (hts _ st_nest4)
      · exact va_Nw.of rfl (hts _ st_nest5)
      · exact va_Nw.of rfl (hts _ st_nest6)
      · exact va_Nw.of rfl (hts _ st_nest7)
      · exact va_Nw.of rfl (hts _ st_nest8)
      · exact va_Nw.of rfl (hts _ st_nest9)
      · exact va_Nw.of rfl (hts _ st_nest10)
    · simp only [rTexts, List.mem_cons, List.not_mem_nil, or_false] at hq
      rcases hq with rfl | rfl | rfl | rfl | rfl | rfl | rfl | rfl | rfl | rfl | rfl | rfl | rfl | rfl | rfl | rfl
      · exact vk_R.of (hts _ st_text0) (by show _ = some (Value.ref (ad 0)); rw [ad1 0 (by decide)]; exact hSe 0 (by decide))
      · exact vk_R.of (hts _ st_text1) (by show _ = some (Value.ref (ad 1)); rw [ad1 1 (by decide)]; exact hSe 1 (by decide))
      · exact vk_R.of (hts _ st_text2) (by show _ = some (Value.ref (ad 2)); rw [ad1 2 (by decide)]; exact hSe 2 (by decide))
      · exact vk_R.of (hts _ st_text3) (by show _ = some (Value.ref (ad 3)); rw [ad1 3 (by decide)]; exact hSe 3 (by decide))
      · exact vk_R.of (hts _ st_text4) (by show _ = some (Value.ref (ad 4)); rw [ad1 4 (by decide)]; exact hSe 4 (by decide))
      · exact vk_R.of (hts _ st_text5) (by show _ = some (Value.ref (ad 5)); rw [ad1 5 (by decide)]; exact hSe 5 (by decide))
      · exact vk_R.of (hts _ st_text6) (by show _ = some (Value.ref (ad 6)); rw [ad1 6 (by decide)]; exact hSe 6 (by decide))
      · exact vk_R.of (hts _ st_text7) (by show _ = some (Value.ref (ad 7)); rw [ad1 7 (by decide)]; exact hSe 7 (by decide))
      · exact vk_R.of (hts _ st_text8) (by show _ = some (Value.ref (ad 8)); rw [ad1 8 (by decide)]; exact hSe 8 (by decide))
      · exact vk_R.of (hts _ st_text9) (by show _ = some (Value.ref (ad 9)); rw [ad1 9 (by decide)]; exact hSe 9 (by decide))
      · exact vk_R.of (hts _ st_text10) (by show _ = some (Value.ref (ad 1)); rw [ad1 1 (by decide)]; exact st_same (hs _ st_dup0) (hSe 1 (by decide)))
      · exact vk_R.of (hts _ st_text11) (by show _ = some (Value.ref (ad 10)); rw [ad1 10 (by decide)]; exact hSe 10 (by decide))
      · exact vk_R.of (hts _ st_text12) (by show _ = some (Value.ref (ad 11)); rw [ad1 11 (by decide)]; exact hSe 11 (by decide))
      · exact vk_R.of (hts _ st_text13) (by show _ = some (Value.ref (ad 3)); rw [ad1 3 (by decide)]; exact st_same (hs _ st_dup1) (hSe 3 (by decide)))
      · exact vk_R.of (hts _ st_text14) (by show _ = some (Value.ref (ad 6)); rw [ad1 6 (by decide)]; exact st_same (hs _ st_dup2) (hSe 6 (by decide)))
      · exact vk_R.of (hts _ st_text15) (by show _ = some (Value.ref (ad 7)); rw [ad1 7 (by decide)]; exact st_same (hs _ st_dup3) (hSe 7 (by decide)))
  have hSS : rS G s s.heap := by
    rw [hG]
    refine ⟨⟨fun i hi => ?_, fun i j hi hj h => ?_⟩, hCS, ?_, ⟨?_, ?_⟩⟩
    · have hi : i < 12 := hi
      show va_O _ (ad i) _ _ _ ∧ va_OF _ _ _ _ (ad i) _ _ _ ∧ va_OF _ _ _ (.ref (ad (1000 + i))) (ad i) _ _ _ ∧ va_T _ (ad (1000 + i)) _ _ _ _ _
      rw [ad1 i hi, ad2 i hi]
      exact hSt.1 i hi
    · have hi : i < 12 := hi
      have hj : j < 12 := hj
      have h : ad i = ad j := h
      rw [ad1 i hi, ad1 j hj] at h
      exact hSt.2 i j hi hj h
    · show _ ∨ va_Z _ _ _ (.ref (ad 5000)) _ _ _
      rw [ad3]
      exact hSF
    · show va_X (ad 7000) (ad 7001) (fun j => (UInt32.ofNat (ad (8000 + j))).toInt32) s s.heap
      rw [ad4, ad5]
      have e1 : (fun j => (UInt32.ofNat (ad (8000 + j))).toInt32) = xs := by
        funext j
        rw [ad6, UInt32.ofNat_toNat]
        rfl
      rw [e1]
      exact hX
    · show ad 7000 < s.heap.size
      rw [ad4]
      exact hbl
  have hZ : rZl L xs G := by
    rw [hG]
    refine ⟨ad5, fun j => ?_⟩
    show (UInt32.ofNat (ad (8000 + j))).toInt32 = xs j
    rw [ad6, UInt32.ofNat_toNat]
    rfl
  have hG1 : G.1 = s.heap.size := by rw [hG]
  obtain ⟨w0, hw0⟩ := law_pure hL (xs := xs)
  have hwalk := E_L_law (by omega) hw0
  have hl := lv_entry ([.ref b]) (n := 4) (Nat.le_of_ble_eq_true rfl)
  rw [lg_entry_eq]
  generalize (lg_sl ([.ref b]) ++ List.replicate (4 - (lg_sl ([.ref b])).length) Slot.unset).toArray = ls at hl ⊢
  have hl : lv_has ls 4 (rl G [(0, .float 7000)]) := by
    have e1 : rl G [(0, .float 7000)] = [(0, .ref b)] := by
      rw [hG]
      show [(0, Value.ref (ad 7000))] = _
      rw [ad4]
    rw [e1]
    exact hl
  refine hwalk p l e room_1 s m #[Value.ref b] below meth c G s.heap [] 0 0 87 5473 ls _ ⟨⟨hx, hb, hml, hown, fun w h => hts w (aw_in h)⟩, ⟨hr, hlocks, fun h => absurd h (by decide), hZ⟩, ⟨Nat.le_of_ble_eq_true rfl, Nat.le_of_ble_eq_true rfl, Nat.le_of_ble_eq_true rfl, Nat.le_of_ble_eq_true rfl, rfl, Nat.le_of_ble_eq_true rfl⟩, ⟨hK, hSS, by rw [hG1]; exact Nat.le_refl _, by rw [hG1]; rfl⟩, fun k q h => by simp [rws] at h, va_S.rf⟩ hl ?_
  intro r w H locs cells slots pc ls2 hQ X hret
  obtain ⟨rfl, rfl⟩ := hQ
  have hS := X.2.2.2.2.2
  rcases hret with ⟨x, ty, h1, h2, h3, h4⟩ | ⟨x, h1, _⟩ | ⟨h1, _⟩ | ⟨u, cn, h1, _⟩
  · cases h1
    refine va_forget (fun q hq => by have h9 : G.1 ≤ q.base := hS.2.2 q hq; rw [hG1] at h9; exact h9) ?_
    refine W.widen (k := 600000) (n := 7302250) (by have := X.2.2.1; omega) (by have := X.2.2.1; omega) ?_
    exact lw_ret hx hb hr hlocks h4
  · cases h1
  · cases h1
  · cases h1

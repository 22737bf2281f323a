set_option maxRecDepth 20000 in
theorem E_X10_does {x0 : Nat} {x1 : Int32} {r0 : Bool} {w0 : rW} {w : rW} (h : J_X10_does x0 x1 w = some (r0, w0)) : (∃ fs, w[x0]? = some (cO 10 fs)) ∧ rMet mX10_does 5 0 0 [.ref x0, .int x1] w (rIs (some (.int (bi r0))) w0) := by
  unfold J_X10_does at h
  obtain ⟨hrc, h⟩ := rRc_some h
  refine ⟨hrc, ?_⟩
  refine rMet_of (by decide) rfl ?_
  refine rv_aload_n 0 dX10_does_0 rfl ?_
  refine rv_getR ff_X10_61 dX10_does_1 h (fun a1 h => ?_)
  refine rv_iconst (v := 3) dX10_does_4 (by decide) ?_
  refine rv_iload_n 1 dX10_does_5 rfl ?_
  refine rv_imul dX10_does_6 ?_
  refine rv_iaload dX10_does_7 h (fun v2 h => ?_)
  refine rv_istore_n (l2 := [(2, .int v2), (0, .ref x0), (1, .int x1)]) dX10_does_8 rfl rfl ?_
  refine rv_aload_n 1 dX10_does_9 rfl ?_
  refine rv_getR ff_X10_61 dX10_does_10 h (fun a3 h => ?_)
  refine rv_iconst (v := 3) dX10_does_13 (by decide) ?_
  refine rv_iload_n 2 dX10_does_14 rfl ?_
  refine rv_imul dX10_does_15 ?_
  refine rv_iconst (v := 1) dX10_does_16 (by decide) ?_
  refine rv_iadd dX10_does_17 ?_
  refine rv_iaload dX10_does_18 h (fun v4 h => ?_)
  refine rv_istore_n (l2 := [(3, .int v4), (2, .int v2), (0, .ref x0), (1, .int x1)]) dX10_does_19 rfl rfl ?_
  refine rv_aload_n 2 dX10_does_20 rfl ?_
  refine rv_getR ff_X10_58 dX10_does_21 h (fun a5 h => ?_)
  refine rv_iload_n 3 dX10_does_24 rfl ?_
  refine rv_iaload dX10_does_25 h (fun v6 h => ?_)
  refine rIf h (fun c7 h => ?_) (fun c7 h => ?_)
  · refine rv_tswIn 68 dX10_does_26 c7 (by decide) (by decide) rfl (by decide) ?_
    refine rv_aload_n 2 dX10_does_68 rfl ?_
    refine rv_iload_n 1 dX10_does_69 rfl ?_
    refine rv_iload_n 0 dX10_does_70 rfl ?_
    refine rv_aload_n 2 dX10_does_71 rfl ?_
    refine rv_getR ff_X10_61 dX10_does_72 h (fun a8 h => ?_)
    refine rv_iconst (v := 3) dX10_does_75 (by decide) ?_
    refine rv_iload_n 3 dX10_does_76 rfl ?_
    refine rv_imul dX10_does_77 ?_
    refine rv_iconst (v := 2) dX10_does_78 (by decide) ?_
    refine rv_iadd dX10_does_79 ?_
    refine rv_iaload dX10_does_80 h (fun v9 h => ?_)
    obtain ⟨v11, w12, h10, h⟩ := rB2_some h
    refine rv_callVr (k3 := 0) (n3 := 0) (st2 := []) caX10_size_ cvX10_size_ ml_X10_251 dX10_does_81 rfl (E_X10_size_ h10).2 (E_X10_size_ h10).1 rfl rfl rfl rfl rfl ?_
    clear h10
    refine rv_if_lt 91 dX10_does_84 (by decide) (fun c13 => ?_) (fun c13 => ?_)
    · replace h := rIfT h c13
      refine rv_iconst (v := 0) dX10_does_91 (by decide) ?_
      exact rv_iret .boolean dX10_does_92 rfl (by decide) (rRetZw (x := 0) h rfl)
    · replace h := rIfF h c13
      refine rv_iconst (v := 1) dX10_does_87 (by decide) ?_
      refine rv_goto 92 dX10_does_88 (by decide) ?_
      exact rv_iret .boolean dX10_does_92 rfl (by decide) (rRetZw (x := 1) h rfl)
  refine rIf h (fun c14 h => ?_) (fun c14 h => ?_)
  · refine rv_tswIn 93 dX10_does_26 c14 (by decide) (by decide) rfl (by decide) ?_
    refine rv_aload_n 2 dX10_does_93 rfl ?_
    refine rv_iload_n 1 dX10_does_94 rfl ?_
    refine rv_iload_n 0 dX10_does_95 rfl ?_
    obtain ⟨v16, w17, h15, h⟩ := rB2_some h
    refine rv_callVr (k3 := 0) (n3 := 0) (st2 := []) caX10_count cvX10_count ml_X10_254 dX10_does_96 rfl (E_X10_count h15).2 (E_X10_count h15).1 rfl rfl rfl rfl rfl ?_
    clear h15
    refine rv_if_lt 106 dX10_does_99 (by decide) (fun c18 => ?_) (fun c18 => ?_)
    · replace h := rIfT h c18
      refine rv_iconst (v := 0) dX10_does_106 (by decide) ?_
      exact rv_iret .boolean dX10_does_107 rfl (by decide) (rRetZw (x := 0) h rfl)
    · replace h := rIfF h c18
      refine rv_iconst (v := 1) dX10_does_102 (by decide) ?_
      refine rv_goto 107 dX10_does_103 (by decide) ?_
      exact rv_iret .boolean dX10_does_107 rfl (by decide) (rRetZw (x := 1) h rfl)
  refine rIf h (fun c19 h => ?_) (fun c19 h => ?_)
  · refine rv_tswIn 108 dX10_does_26 c19 (by decide) (by decide) rfl (by decide) ?_
    refine rv_aload_n 2 dX10_does_108 rfl ?_
    refine rv_iload_n 1 dX10_does_109 rfl ?_
    refine rv_iload_n 0 dX10_does_110 rfl ?_
    obtain ⟨v21, w22, h20, h⟩ := rB2_some h
    refine rv_callVr (k3 := 0) (n3 := 0) (st2 := []) caX10_twist cvX10_twist ml_X10_256 dX10_does_111 rfl (E_X10_twist h20).2 (E_X10_twist h20).1 rfl rfl rfl rfl rfl ?_
    clear h20
    refine rv_if_lt 121 dX10_does_114 (by decide) (fun c23 => ?_) (fun c23 => ?_)
    · replace h := rIfT h c23
      refine rv_iconst (v := 0) dX10_does_121 (by decide) ?_
      exact rv_iret .boolean dX10_does_122 rfl (by decide) (rRetZw (x := 0) h rfl)
    · replace h := rIfF h c23
      refine rv_iconst (v := 1) dX10_does_117 (by decide) ?_
      refine rv_goto 122 dX10_does_118 (by decide) ?_
      exact rv_iret .boolean dX10_does_122 rfl (by decide) (rRetZw (x := 1) h rfl)
  refine rIf h (fun c24 h => ?_) (fun c24 h => ?_)
  · refine rv_tswIn 123 dX10_does_26 c24 (by decide) (by decide) rfl (by decide) ?_
    refine rv_aload_n 2 dX10_does_123 rfl ?_
    refine rv_iload_n 1 dX10_does_124 rfl ?_
    obtain ⟨b26, h25, h⟩ := rBind h
    refine rv_callVr (k3 := 0) (n3 := 0) (st2 := []) caX10_isBlock cvX10_isBlock ml_X10_140 dX10_does_125 rfl (E_X10_isBlock h25).2 (E_X10_isBlock h25).1 rfl rfl rfl rfl rfl ?_
    clear h25
    refine rv_if_ne 133 dX10_does_128 (by decide) (fun c27 => ?_) (fun c27 => ?_)
    · replace h := rIfF h c27
      refine rv_aload_n 2 dX10_does_133 rfl ?_
      refine rv_getR ff_X10_31 dX10_does_134 h (fun a28 h => ?_)
      refine rv_iload_n 1 dX10_does_137 rfl ?_
      refine rv_iconst (v := 1) dX10_does_138 (by decide) ?_
      refine rv_aload_n 2 dX10_does_139 rfl ?_
      refine rv_getR ff_X10_31 dX10_does_140 h (fun a29 h => ?_)
      refine rv_iload_n 1 dX10_does_143 rfl ?_
      refine rv_iaload dX10_does_144 h (fun v30 h => ?_)
      refine rv_isub dX10_does_145 ?_
      refine rv_iastore dX10_does_146 h (fun w31 h => ?_)
      refine rv_iconst (v := 1) dX10_does_147 (by decide) ?_
      exact rv_iret .boolean dX10_does_148 rfl (by decide) (rRetZw (x := 1) h rfl)
    · replace h := rIfT h c27
      refine rv_iconst (v := 0) dX10_does_131 (by decide) ?_
      exact rv_iret .boolean dX10_does_132 rfl (by decide) (rRetZw (x := 0) h rfl)
  refine rIf h (fun c32 h => ?_) (fun c32 h => ?_)
  · refine rv_tswIn 149 dX10_does_26 c32 (by decide) (by decide) rfl (by decide) ?_
    refine rv_aload_n 2 dX10_does_149 rfl ?_
    obtain ⟨v34, w35, h33, h⟩ := rB2_some h
    refine rv_callVr (k3 := 0) (n3 := 0) (st2 := []) caX10_turn cvX10_turn ml_X10_259 dX10_does_150 rfl (E_X10_turn h33).2 (E_X10_turn h33).1 rfl rfl rfl rfl rfl ?_
    clear h33
    refine rv_if_lt 160 dX10_does_153 (by decide) (fun c36 => ?_) (fun c36 => ?_)
    · replace h := rIfT h c36
      refine rv_iconst (v := 0) dX10_does_160 (by decide) ?_
      exact rv_iret .boolean dX10_does_161 rfl (by decide) (rRetZw (x := 0) h rfl)
    · replace h := rIfF h c36
      refine rv_iconst (v := 1) dX10_does_156 (by decide) ?_
      refine rv_goto 161 dX10_does_157 (by decide) ?_
      exact rv_iret .boolean dX10_does_161 rfl (by decide) (rRetZw (x := 1) h rfl)
  refine rIf h (fun c37 h => ?_) (fun c37 h => ?_)
  · refine rv_tswIn 162 dX10_does_26 c37 (by decide) (by decide) rfl (by decide) ?_
    refine rv_aload_n 2 dX10_does_162 rfl ?_
    obtain ⟨v39, w40, h38, h⟩ := rB2_some h
    refine rv_callVr (k3 := 0) (n3 := 0) (st2 := []) caX10_swap cvX10_swap ml_X10_262 dX10_does_163 rfl (E_X10_swap h38).2 (E_X10_swap h38).1 rfl rfl rfl rfl rfl ?_
    clear h38
    refine rv_if_lt 173 dX10_does_166 (by decide) (fun c41 => ?_) (fun c41 => ?_)
    · replace h := rIfT h c41
      refine rv_iconst (v := 0) dX10_does_173 (by decide) ?_
      exact rv_iret .boolean dX10_does_174 rfl (by decide) (rRetZw (x := 0) h rfl)
    · replace h := rIfF h c41
      refine rv_iconst (v := 1) dX10_does_169 (by decide) ?_
      refine rv_goto 174 dX10_does_170 (by decide) ?_
      exact rv_iret .boolean dX10_does_174 rfl (by decide) (rRetZw (x := 1) h rfl)
  refine rIf h (fun c42 h => ?_) (fun c42 h => ?_)
  · refine rv_tswIn 175 dX10_does_26 c42 (by decide) (by decide) rfl (by decide) ?_
    refine rv_aload_n 2 dX10_does_175 rfl ?_
    obtain ⟨v44, w45, h43, h⟩ := rB2_some h
    refine rv_callVr (k3 := 0) (n3 := 0) (st2 := []) caX10_keep cvX10_keep ml_X10_265 dX10_does_176 rfl (E_X10_keep h43).2 (E_X10_keep h43).1 rfl rfl rfl rfl rfl ?_
    clear h43
    refine rv_if_lt 186 dX10_does_179 (by decide) (fun c46 => ?_) (fun c46 => ?_)
    · replace h := rIfT h c46
      refine rv_iconst (v := 0) dX10_does_186 (by decide) ?_
      exact rv_iret .boolean dX10_does_187 rfl (by decide) (rRetZw (x := 0) h rfl)
    · replace h := rIfF h c46
      refine rv_iconst (v := 1) dX10_does_182 (by decide) ?_
      refine rv_goto 187 dX10_does_183 (by decide) ?_
      exact rv_iret .boolean dX10_does_187 rfl (by decide) (rRetZw (x := 1) h rfl)
  refine rv_tswOut 188 [0, 1, 2, 3, 4, 5, 6] dX10_does_26 (by decide) (by decide) (by decide) (fun v hv => ?_) ?_
  · simp only [List.mem_cons, List.not_mem_nil, or_false] at hv
    rcases hv with rfl | rfl | rfl | rfl | rfl | rfl | rfl
    · exact c7
    · exact c14
    · exact c19
    · exact c24
    · exact c32
    · exact c37
    · exact c42
  refine rv_aload_n 2 dX10_does_188 rfl ?_
  obtain ⟨v48, w49, h47, h⟩ := rB2_some h
  refine rv_callVr (k3 := 0) (n3 := 0) (st2 := []) caX10_differ cvX10_differ ml_X10_267 dX10_does_189 rfl (E_X10_differ h47).2 (E_X10_differ h47).1 rfl rfl rfl rfl rfl ?_
  clear h47
  refine rv_if_lt 199 dX10_does_192 (by decide) (fun c50 => ?_) (fun c50 => ?_)
  · replace h := rIfT h c50
    refine rv_iconst (v := 0) dX10_does_199 (by decide) ?_
    exact rv_iret .boolean dX10_does_200 rfl (by decide) (rRetZw (x := 0) h rfl)
  · replace h := rIfF h c50
    refine rv_iconst (v := 1) dX10_does_195 (by decide) ?_
    refine rv_goto 200 dX10_does_196 (by decide) ?_
    exact rv_iret .boolean dX10_does_200 rfl (by decide) (rRetZw (x := 1) h rfl)
set_option maxRecDepth 20000 in
theorem E_X10_read_26 {r0 : Int32} {w0 : rW}  (x0 : Nat)   : ∀ (f : Nat) (x2 : Int32) (x3 : Int32) (w : rW), J_X10_read_26 x0 f x2 x3 w = some (r0, w0) → rEv mX10_read 7 0 0 26 [(0, .ref x0), (2, .int x2), (3, .int x3)] [] w (rIs (some (.int r0)) w0) := by
  intro f
  induction f with
  | zero =>
    intro x2 x3 w h
    exact absurd (show (none : Option (Int32 × rW)) = some (r0, w0) from h) (by simp)
  | succ f ih =>
    intro x2 x3 w h
    rw [J_X10_read_26] at h
    refine rv_iload_n 2 dX10_read_26 rfl ?_
    refine rv_aload_n 0 dX10_read_27 rfl ?_
    refine rv_getI ff_X10_239 dX10_read_28 h (fun v7 h => ?_)
    refine rv_icmp_ge 51 dX10_read_31 (by decide) (fun c8 => ?_) (fun c8 => ?_)
    · replace h := rIfT h c8
      refine rv_iload_n 1 dX10_read_51 rfl ?_
      exact rv_iret .int dX10_read_52 rfl rfl (rRetIw h)
    · replace h := rIfF h c8
      refine rv_aload_n 0 dX10_read_34 rfl ?_
      refine rv_iload_n 2 dX10_read_35 rfl ?_
      obtain ⟨b10, w11, h9, h⟩ := rB2_some h
      refine rv_callVr (k3 := 0) (n3 := 0) (st2 := []) caX10_does cvX10_does ml_X10_272 dX10_read_36 rfl (E_X10_does h9).2 (E_X10_does h9).1 rfl rfl rfl rfl rfl ?_
      clear h9
      obtain ⟨K45, eK45, h⟩ := rLetE h
      have hK45 : ∀ (y2 : Int32), K45 y2 = some (r0, w0) → rEv mX10_read 7 0 0 45 [(0, .ref x0), (2, .int y2), (3, .int x3)] [] w11 (rIs (some (.int r0)) w0) := by
        intro x2_12 h
        rw [eK45] at h
        obtain ⟨v13, ev13, h⟩ := rLetE h
        refine rv_iinc (v := v13) (l2 := [(3, .int v13), (0, .ref x0), (2, .int x2_12)]) 2 dX10_read_45 rfl (by rw [ev13]; rfl) rfl rfl ?_
        clear ev13
        refine rv_goto 26 dX10_read_48 (by decide) ?_
        exact rv_sub [1, 2, 0] rfl (ih x2_12 v13 w11 h)
      clear eK45
      refine rv_if_eq 45 dX10_read_39 (by decide) (fun c14 => ?_) (fun c14 => ?_)
      · replace h := rIfT h c14
        exact rv_sub [0, 1, 2] rfl (hK45 x2 h)
      · replace h := rIfF h c14
        obtain ⟨v15, ev15, h⟩ := rLetE h
        refine rv_iinc (v := v15) (l2 := [(2, .int v15), (0, .ref x0), (3, .int x3)]) 1 dX10_read_42 rfl (by rw [ev15]; rfl) rfl rfl ?_
        clear ev15
        exact rv_sub [1, 0, 2] rfl (hK45 v15 h)
set_option maxRecDepth 20000 in
theorem E_X10_read {x0 : Nat} {r0 : Int32} {w0 : rW} {w : rW} (h : J_X10_read x0 w = some (r0, w0)) : (∃ fs, w[x0]? = some (cO 10 fs)) ∧ rMet mX10_read 7 0 0 [.ref x0] w (rIs (some (.int r0)) w0) := by
  unfold J_X10_read at h
  obtain ⟨hrc, h⟩ := rRc_some h
  refine ⟨hrc, ?_⟩
  refine rMet_of (by decide) rfl ?_
  refine rv_aload_n 0 dX10_read_0 rfl ?_
  obtain ⟨b2, w3, h1, h⟩ := rB2_some h
  refine rv_callVr (k3 := 0) (n3 := 0) (st2 := []) caX10_reads cvX10_reads ml_X10_269 dX10_read_1 rfl (E_X10_reads h1).2 (E_X10_reads h1).1 rfl rfl rfl rfl rfl ?_
  clear h1
  refine rv_letI h (fun v4 h => ?_)
  refine rv_istore_n (l2 := [(1, .int v4), (0, .ref x0)]) dX10_read_4 rfl rfl ?_
  refine rv_aload_n 1 dX10_read_5 rfl ?_
  refine rv_iconst (v := 0) dX10_read_6 (by decide) ?_
  refine rv_putI ff_X10_197 (fp_X10_19 _) dX10_read_7 h (fun w5 h => ?_)
  refine rv_iload_n 0 dX10_read_10 rfl ?_
  refine rv_if_ne 22 dX10_read_11 (by decide) (fun c6 => ?_) (fun c6 => ?_)
  · replace h := rIfF h c6
    refine rv_iconst (v := 0) dX10_read_22 (by decide) ?_
    refine rv_istore_n (l2 := [(2, .int 0), (1, .int v4), (0, .ref x0)]) dX10_read_23 rfl rfl ?_
    refine rv_iconst (v := 0) dX10_read_24 (by decide) ?_
    refine rv_istore_n (l2 := [(3, .int 0), (2, .int 0), (1, .int v4), (0, .ref x0)]) dX10_read_25 rfl rfl ?_
    exact rv_sub [3, 1, 0] rfl (E_X10_read_26 x0 2000 0 0 w5 h)
  · replace h := rIfT h c6
    refine rv_bipush (v := (-10)) dX10_read_14 (by decide) ?_
    refine rv_aload_n 1 dX10_read_16 rfl ?_
    refine rv_getI ff_X10_200 dX10_read_17 h (fun v16 h => ?_)
    refine rv_isub dX10_read_20 ?_
    exact rv_iret .int dX10_read_21 rfl rfl (rRetIw h)
set_option maxRecDepth 20000 in
theorem E_X10_coverOf_4 {r0 : Int32}  (x0 : Nat) (x1 : Int32) (w : rW)   : ∀ (f : Nat) (x2 : Int32) (x3 : Int32), J_X10_coverOf_4 x0 x1 w f x2 x3 = some r0 → rEv mX10_coverOf 0 0 0 4 [(0, .ref x0), (1, .int x1), (2, .int x2), (3, .int x3)] [] w (rIs (some (.int r0)) w) := by
  intro f
  induction f with
  | zero =>
    intro x2 x3 h
    exact absurd (show (none : Option Int32) = some r0 from h) (by simp)
  | succ f ih =>
    intro x2 x3 h
    rw [J_X10_coverOf_4] at h
    refine rv_iload_n 3 dX10_coverOf_4 rfl ?_
    refine rv_aload_n 0 dX10_coverOf_5 rfl ?_
    refine rv_getI ff_X10_110 dX10_coverOf_6 h (fun v1 h => ?_)
    refine rv_icmp_ge 39 dX10_coverOf_9 (by decide) (fun c2 => ?_) (fun c2 => ?_)
    · replace h := rIfT h c2
      refine rv_iload_n 2 dX10_coverOf_39 rfl ?_
      exact rv_iret .int dX10_coverOf_40 rfl rfl (rRetIp h)
    · replace h := rIfF h c2
      refine rv_aload_n 0 dX10_coverOf_12 rfl ?_
      refine rv_getR ff_X10_21 dX10_coverOf_13 h (fun a3 h => ?_)
      refine rv_iload_n 3 dX10_coverOf_16 rfl ?_
      refine rv_iaload dX10_coverOf_17 h (fun v4 h => ?_)
      refine rv_iload_n 1 dX10_coverOf_18 rfl ?_
      refine rv_iand dX10_coverOf_19 ?_
      refine rv_iload_n 1 dX10_coverOf_20 rfl ?_
      obtain ⟨K33, eK33, h⟩ := rLetE h
      have hK33 : ∀ (y2 : Int32), K33 y2 = some r0 → rEv mX10_coverOf 0 0 0 33 [(0, .ref x0), (1, .int x1), (2, .int y2), (3, .int x3)] [] w (rIs (some (.int r0)) w) := by
        intro x2_5 h
        rw [eK33] at h
        obtain ⟨v6, ev6, h⟩ := rLetE h
        refine rv_iinc (v := v6) (l2 := [(3, .int v6), (0, .ref x0), (1, .int x1), (2, .int x2_5)]) 3 dX10_coverOf_33 rfl (by rw [ev6]; rfl) rfl rfl ?_
        clear ev6
        refine rv_goto 4 dX10_coverOf_36 (by decide) ?_
        exact rv_sub [1, 2, 3, 0] rfl (ih x2_5 v6 h)
      clear eK33
      refine rv_icmp_ne 33 dX10_coverOf_21 (by decide) (fun c7 => ?_) (fun c7 => ?_)
      · replace h := rIfF h c7
        exact rv_sub [0, 1, 2, 3] rfl (hK33 x2 h)
      · replace h := rIfT h c7
        refine rv_iload_n 2 dX10_coverOf_24 rfl ?_
        refine rv_aload_n 0 dX10_coverOf_25 rfl ?_
        refine rv_getR ff_X10_31 dX10_coverOf_26 h (fun a8 h => ?_)
        refine rv_iload_n 3 dX10_coverOf_29 rfl ?_
        refine rv_iaload dX10_coverOf_30 h (fun v9 h => ?_)
        refine rv_iadd dX10_coverOf_31 ?_
        refine rv_letI h (fun v10 h => ?_)
        refine rv_istore_n (l2 := [(2, .int v10), (0, .ref x0), (1, .int x1), (3, .int x3)]) dX10_coverOf_32 rfl rfl ?_
        exact rv_sub [1, 2, 0, 3] rfl (hK33 v10 h)
set_option maxRecDepth 20000 in
theorem E_X10_coverOf {x0 : Nat} {x1 : Int32} {r0 : Int32} {w : rW} (h : J_X10_coverOf x0 x1 w = some r0) : (∃ fs, w[x0]? = some (cO 10 fs)) ∧ rMet mX10_coverOf 0 0 0 [.ref x0, .int x1] w (rIs (some (.int r0)) w) := by
  unfold J_X10_coverOf at h
  obtain ⟨hrc, h⟩ := rRc_some h
  refine ⟨hrc, ?_⟩
  refine rMet_of (by decide) rfl ?_
  refine rv_iconst (v := 0) dX10_coverOf_0 (by decide) ?_
  refine rv_istore_n (l2 := [(2, .int 0), (0, .ref x0), (1, .int x1)]) dX10_coverOf_1 rfl rfl ?_
  refine rv_iconst (v := 0) dX10_coverOf_2 (by decide) ?_
  refine rv_istore_n (l2 := [(3, .int 0), (2, .int 0), (0, .ref x0), (1, .int x1)]) dX10_coverOf_3 rfl rfl ?_
  exact rv_sub [2, 3, 1, 0] rfl (E_X10_coverOf_4 x0 x1 w 2000 0 0 h)
set_option maxRecDepth 20000 in
theorem E_X10_index_5 {r0 : Int32}  (x0 : Nat) (w : rW)   : ∀ (f : Nat) (x1 : Int32) (x2 : Int32), J_X10_index_5 x0 w f x1 x2 = some r0 → rEv mX10_index 2 0 0 5 [(0, .ref x0), (1, .int x1), (2, .int x2)] [] w (rIs (some (.int r0)) w) := by
  intro f
  induction f with
  | zero =>
    intro x1 x2 h
    exact absurd (show (none : Option Int32) = some r0 from h) (by simp)
  | succ f ih =>
    intro x1 x2 h
    rw [J_X10_index_5] at h
    refine rv_iload_n 2 dX10_index_5 rfl ?_
    refine rv_iconst (v := 1) dX10_index_6 (by decide) ?_
    refine rv_aload_n 0 dX10_index_7 rfl ?_
    refine rv_getI ff_X10_9 dX10_index_8 h (fun v1 h => ?_)
    refine rv_ishl dX10_index_11 ?_
    refine rv_icmp_ge 57 dX10_index_12 (by decide) (fun c2 => ?_) (fun c2 => ?_)
    · replace h := rIfT h c2
      refine rv_iload_n 1 dX10_index_57 rfl ?_
      exact rv_iret .int dX10_index_58 rfl rfl (rRetIp h)
    · replace h := rIfF h c2
      refine rv_iload_n 2 dX10_index_15 rfl ?_
      obtain ⟨v4, h3, h⟩ := rBind h
      refine rv_callSr (k3 := 0) (n3 := 0) (st2 := []) (As := [.int x2]) caX10_size csX10_size ml_X10_113 dX10_index_16 rfl (E_X10_size h3) rfl rfl rfl rfl rfl ?_
      clear h3
      refine rv_aload_n 0 dX10_index_19 rfl ?_
      refine rv_getI ff_X10_18 dX10_index_20 h (fun v5 h => ?_)
      obtain ⟨K51, eK51, h⟩ := rLetE h
      have hK51 : ∀ (y1 : Int32), K51 y1 = some r0 → rEv mX10_index 2 0 0 51 [(0, .ref x0), (1, .int y1), (2, .int x2)] [] w (rIs (some (.int r0)) w) := by
        intro x1_6 h
        rw [eK51] at h
        obtain ⟨v7, ev7, h⟩ := rLetE h
        refine rv_iinc (v := v7) (l2 := [(2, .int v7), (0, .ref x0), (1, .int x1_6)]) 2 dX10_index_51 rfl (by rw [ev7]; rfl) rfl rfl ?_
        clear ev7
        refine rv_goto 5 dX10_index_54 (by decide) ?_
        exact rv_sub [1, 2, 0] rfl (ih x1_6 v7 h)
      clear eK51
      refine rv_icmp_eq 29 dX10_index_23 (by decide) (fun c8 => ?_) (fun c8 => ?_)
      · replace h := rIfT h c8
        refine rv_aload_n 0 dX10_index_29 rfl ?_
        refine rv_iload_n 2 dX10_index_30 rfl ?_
        obtain ⟨v10, h9, h⟩ := rBind h
        refine rv_callVr (k3 := 0) (n3 := 0) (st2 := []) caX10_coverOf cvX10_coverOf ml_X10_275 dX10_index_31 rfl (E_X10_coverOf h9).2 (E_X10_coverOf h9).1 rfl rfl rfl rfl rfl ?_
        clear h9
        refine rv_istore_n (l2 := [(3, .int v10), (0, .ref x0), (1, .int x1), (2, .int x2)]) dX10_index_34 rfl rfl ?_
        refine rv_iload_n 2 dX10_index_35 rfl ?_
        refine rv_bipush (v := (-5)) dX10_index_36 (by decide) ?_
        obtain ⟨K49, eK49, h⟩ := rLetE h
        have hK49 : K49 = some r0 → rEv mX10_index 2 0 0 49 [(0, .ref x0), (2, .int x2), (3, .int v10)] [] w (rIs (some (.int r0)) w) := by
          intro h
          rw [eK49] at h
          refine rv_iload_n 2 dX10_index_49 rfl ?_
          refine rv_istore_n (l2 := [(1, .int v10), (0, .ref x0), (2, .int x2), (3, .int v10)]) dX10_index_50 rfl rfl ?_
          exact rv_sub [1, 0, 2] rfl (hK51 v10 h)
        clear eK49
        refine rv_icmp_eq 49 dX10_index_38 (by decide) (fun c11 => ?_) (fun c11 => ?_)
        · replace h := rIfT h c11
          exact rv_sub [1, 3, 0] rfl (hK49 h)
        · replace h := rIfF h c11
          refine rv_iload_n 0 dX10_index_41 rfl ?_
          refine rv_iload_n 2 dX10_index_42 rfl ?_
          refine rv_icmp_eq 49 dX10_index_43 (by decide) (fun c12 => ?_) (fun c12 => ?_)
          · replace h := rIfT h c12
            exact rv_sub [1, 3, 0] rfl (hK49 h)
          · replace h := rIfF h c12
            refine rv_bipush (v := (-5)) dX10_index_46 (by decide) ?_
            exact rv_iret .int dX10_index_48 rfl rfl (rRetIp h)
      · replace h := rIfF h c8
        refine rv_goto 51 dX10_index_26 (by decide) ?_
        exact rv_sub [0, 1, 2] rfl (hK51 x1 h)
set_option maxRecDepth 20000 in
theorem E_X10_index {x0 : Nat} {r0 : Int32} {w : rW} (h : J_X10_index x0 w = some r0) : (∃ fs, w[x0]? = some (cO 10 fs)) ∧ rMet mX10_index 2 0 0 [.ref x0] w (rIs (some (.int r0)) w) := by
  unfold J_X10_index at h
  obtain ⟨hrc, h⟩ := rRc_some h
  refine ⟨hrc, ?_⟩
  refine rMet_of (by decide) rfl ?_
  refine rv_bipush (v := (-5)) dX10_index_0 (by decide) ?_
  refine rv_istore_n (l2 := [(1, .int (-5)), (0, .ref x0)]) dX10_index_2 rfl rfl ?_
  refine rv_iconst (v := 0) dX10_index_3 (by decide) ?_
  refine rv_istore_n (l2 := [(2, .int 0), (1, .int (-5)), (0, .ref x0)]) dX10_index_4 rfl rfl ?_
  exact rv_sub [2, 1, 0] rfl (E_X10_index_5 x0 w 2000 (-5) 0 h)
set_option maxRecDepth 20000 in
theorem E_X10_foundation_4 {r0 : Int32}  (x0 : Nat) (w : rW)   : ∀ (f : Nat) (x1 : Int32) (x2 : Int32), J_X10_foundation_4 x0 w f x1 x2 = some r0 → rEv mX10_foundation 0 0 0 4 [(0, .ref x0), (1, .int x1), (2, .int x2)] [] w (rIs (some (.int r0)) w) := by
  intro f
  induction f with
  | zero =>
    intro x1 x2 h
    exact absurd (show (none : Option Int32) = some r0 from h) (by simp)
  | succ f ih =>
    intro x1 x2 h
    rw [J_X10_foundation_4] at h
    refine rv_iload_n 2 dX10_foundation_4 rfl ?_
    refine rv_aload_n 0 dX10_foundation_5 rfl ?_
    refine rv_getI ff_X10_110 dX10_foundation_6 h (fun v1 h => ?_)
    refine rv_icmp_ge 36 dX10_foundation_9 (by decide) (fun c2 => ?_) (fun c2 => ?_)
    · replace h := rIfT h c2
      refine rv_iload_n 1 dX10_foundation_36 rfl ?_
      exact rv_iret .int dX10_foundation_37 rfl rfl (rRetIp h)
    · replace h := rIfF h c2
      refine rv_aload_n 0 dX10_foundation_12 rfl ?_
      refine rv_getR ff_X10_28 dX10_foundation_13 h (fun a3 h => ?_)
      refine rv_iload_n 2 dX10_foundation_16 rfl ?_
      refine rv_iaload dX10_foundation_17 h (fun v4 h => ?_)
      obtain ⟨K30, eK30, h⟩ := rLetE h
      have hK30 : ∀ (y1 : Int32), K30 y1 = some r0 → rEv mX10_foundation 0 0 0 30 [(0, .ref x0), (1, .int y1), (2, .int x2)] [] w (rIs (some (.int r0)) w) := by
        intro x1_5 h
        rw [eK30] at h
        obtain ⟨v6, ev6, h⟩ := rLetE h
        refine rv_iinc (v := v6) (l2 := [(2, .int v6), (0, .ref x0), (1, .int x1_5)]) 2 dX10_foundation_30 rfl (by rw [ev6]; rfl) rfl rfl ?_
        clear ev6
        refine rv_goto 4 dX10_foundation_33 (by decide) ?_
        exact rv_sub [1, 2, 0] rfl (ih x1_5 v6 h)
      clear eK30
      refine rv_if_eq 30 dX10_foundation_18 (by decide) (fun c7 => ?_) (fun c7 => ?_)
      · replace h := rIfT h c7
        exact rv_sub [0, 1, 2] rfl (hK30 x1 h)
      · replace h := rIfF h c7
        refine rv_iload_n 1 dX10_foundation_21 rfl ?_
        refine rv_aload_n 0 dX10_foundation_22 rfl ?_
        refine rv_getR ff_X10_21 dX10_foundation_23 h (fun a8 h => ?_)
        refine rv_iload_n 2 dX10_foundation_26 rfl ?_
        refine rv_iaload dX10_foundation_27 h (fun v9 h => ?_)
        refine rv_ior dX10_foundation_28 ?_
        refine rv_letI h (fun v10 h => ?_)
        refine rv_istore_n (l2 := [(1, .int v10), (0, .ref x0), (2, .int x2)]) dX10_foundation_29 rfl rfl ?_
        exact rv_sub [1, 0, 2] rfl (hK30 v10 h)
set_option maxRecDepth 20000 in
theorem E_X10_foundation {x0 : Nat} {r0 : Int32} {w : rW} (h : J_X10_foundation x0 w = some r0) : (∃ fs, w[x0]? = some (cO 10 fs)) ∧ rMet mX10_foundation 0 0 0 [.ref x0] w (rIs (some (.int r0)) w) := by
  unfold J_X10_foundation at h
  obtain ⟨hrc, h⟩ := rRc_some h
  refine ⟨hrc, ?_⟩
  refine rMet_of (by decide) rfl ?_
  refine rv_iconst (v := 0) dX10_foundation_0 (by decide) ?_
  refine rv_istore_n (l2 := [(1, .int 0), (0, .ref x0)]) dX10_foundation_1 rfl rfl ?_
  refine rv_iconst (v := 0) dX10_foundation_2 (by decide) ?_
  refine rv_istore_n (l2 := [(2, .int 0), (1, .int 0), (0, .ref x0)]) dX10_foundation_3 rfl rfl ?_
  exact rv_sub [2, 1, 0] rfl (E_X10_foundation_4 x0 w 2000 0 0 h)
set_option maxRecDepth 20000 in
theorem E_X10_told_109 {r0 : Int32}  (x0 : Nat) (w : rW)   : ∀ (f : Nat) (x2 : Int32) (x3 : Int32), J_X10_told_109 x0 w f x2 x3 = some r0 → rEv mX10_told 3 0 0 109 [(0, .ref x0), (2, .int x2), (3, .int x3)] [] w (rIs (some (.int r0)) w) := by
  intro f
  induction f with
  | zero =>
    intro x2 x3 h
    exact absurd (show (none : Option Int32) = some r0 from h) (by simp)
  | succ f ih =>
    intro x2 x3 h
    rw [J_X10_told_109] at h
    refine rv_iload_n 2 dX10_told_109 rfl ?_
    refine rv_aload_n 0 dX10_told_110 rfl ?_
    refine rv_getI ff_X10_110 dX10_told_111 h (fun v24 h => ?_)
    refine rv_icmp_ge 132 dX10_told_114 (by decide) (fun c25 => ?_) (fun c25 => ?_)
    · replace h := rIfT h c25
      refine rv_iload_n 1 dX10_told_132 rfl ?_
      exact rv_iret .int dX10_told_133 rfl rfl (rRetIp h)
    · replace h := rIfF h c25
      refine rv_iload_n 1 dX10_told_117 rfl ?_
      refine rv_aload_n 0 dX10_told_118 rfl ?_
      refine rv_getR ff_X10_34 dX10_told_119 h (fun a26 h => ?_)
      refine rv_iload_n 2 dX10_told_122 rfl ?_
      refine rv_iaload dX10_told_123 h (fun v27 h => ?_)
      refine rv_iadd dX10_told_124 ?_
      refine rv_letI h (fun v28 h => ?_)
      refine rv_istore_n (l2 := [(2, .int v28), (0, .ref x0), (3, .int x3)]) dX10_told_125 rfl rfl ?_
      obtain ⟨v29, ev29, h⟩ := rLetE h
      refine rv_iinc (v := v29) (l2 := [(3, .int v29), (2, .int v28), (0, .ref x0)]) 2 dX10_told_126 rfl (by rw [ev29]; rfl) rfl rfl ?_
      clear ev29
      refine rv_goto 109 dX10_told_129 (by decide) ?_
      exact rv_sub [2, 1, 0] rfl (ih v28 v29 h)
set_option maxRecDepth 20000 in
theorem E_X10_told {x0 : Nat} {x1 : Int32} {r0 : Int32} {w : rW} (h : J_X10_told x0 x1 w = some r0) : (∃ fs, w[x0]? = some (cO 10 fs)) ∧ rMet mX10_told 3 0 0 [.ref x0, .int x1] w (rIs (some (.int r0)) w) := by
  unfold J_X10_told at h
  obtain ⟨hrc, h⟩ := rRc_some h
  refine ⟨hrc, ?_⟩
  refine rMet_of (by decide) rfl ?_
  refine rv_iconst (v := 0) dX10_told_0 (by decide) ?_
  refine rv_istore_n (l2 := [(2, .int 0), (0, .ref x0), (1, .int x1)]) dX10_told_1 rfl rfl ?_
  refine rv_iload_n 2 dX10_told_2 rfl ?_
  refine rIf h (fun c1 h => ?_) (fun c1 h => ?_)
  · refine rv_tswIn 56 dX10_told_3 c1 (by decide) (by decide) rfl (by decide) ?_
    refine rv_aload_n 1 dX10_told_56 rfl ?_
    refine rv_getI ff_X10_110 dX10_told_57 h (fun v2 h => ?_)
    exact rv_iret .int dX10_told_60 rfl rfl (rRetIp h)
  refine rIf h (fun c3 h => ?_) (fun c3 h => ?_)
  · refine rv_tswIn 61 dX10_told_3 c3 (by decide) (by decide) rfl (by decide) ?_
    refine rv_aload_n 1 dX10_told_61 rfl ?_
    obtain ⟨v5, h4, h⟩ := rBind h
    refine rv_callVr (k3 := 0) (n3 := 0) (st2 := []) caX10_volume cvX10_volume ml_X10_167 dX10_told_62 rfl (E_X10_volume h4).2 (E_X10_volume h4).1 rfl rfl rfl rfl rfl ?_
    clear h4
    exact rv_iret .int dX10_told_65 rfl rfl (rRetIp h)
  refine rIf h (fun c6 h => ?_) (fun c6 h => ?_)
  · refine rv_tswIn 66 dX10_told_3 c6 (by decide) (by decide) rfl (by decide) ?_
    refine rv_aload_n 1 dX10_told_66 rfl ?_
    obtain ⟨v8, h7, h⟩ := rBind h
    refine rv_callVr (k3 := 0) (n3 := 0) (st2 := []) caX10_foundation cvX10_foundation ml_X10_278 dX10_told_67 rfl (E_X10_foundation h7).2 (E_X10_foundation h7).1 rfl rfl rfl rfl rfl ?_
    clear h7
    exact rv_iret .int dX10_told_70 rfl rfl (rRetIp h)
  refine rIf h (fun c9 h => ?_) (fun c9 h => ?_)
  · refine rv_tswIn 71 dX10_told_3 c9 (by decide) (by decide) rfl (by decide) ?_
    refine rv_aload_n 1 dX10_told_71 rfl ?_
    obtain ⟨b11, h10, h⟩ := rBind h
    refine rv_callVr (k3 := 0) (n3 := 0) (st2 := []) caX10_isPlain cvX10_isPlain ml_X10_175 dX10_told_72 rfl (E_X10_isPlain h10).2 (E_X10_isPlain h10).1 rfl rfl rfl rfl rfl ?_
    clear h10
    refine rv_if_eq 82 dX10_told_75 (by decide) (fun c12 => ?_) (fun c12 => ?_)
    · replace h := rIfT h c12
      refine rv_iconst (v := 0) dX10_told_82 (by decide) ?_
      exact rv_iret .int dX10_told_83 rfl rfl (rRetIp h)
    · replace h := rIfF h c12
      refine rv_iconst (v := 1) dX10_told_78 (by decide) ?_
      refine rv_goto 83 dX10_told_79 (by decide) ?_
      exact rv_iret .int dX10_told_83 rfl rfl (rRetIp h)
  refine rIf h (fun c13 h => ?_) (fun c13 h => ?_)
  · refine rv_tswIn 84 dX10_told_3 c13 (by decide) (by decide) rfl (by decide) ?_
    refine rv_aload_n 1 dX10_told_84 rfl ?_
    obtain ⟨b15, h14, h⟩ := rBind h
    refine rv_callVr (k3 := 0) (n3 := 0) (st2 := []) caX10_isTrade cvX10_isTrade ml_X10_179 dX10_told_85 rfl (E_X10_isTrade h14).2 (E_X10_isTrade h14).1 rfl rfl rfl rfl rfl ?_
    clear h14
    refine rv_if_eq 95 dX10_told_88 (by decide) (fun c16 => ?_) (fun c16 => ?_)
    · replace h := rIfT h c16
      refine rv_iconst (v := 0) dX10_told_95 (by decide) ?_
      exact rv_iret .int dX10_told_96 rfl rfl (rRetIp h)
    · replace h := rIfF h c16
      refine rv_iconst (v := 1) dX10_told_91 (by decide) ?_
      refine rv_goto 96 dX10_told_92 (by decide) ?_
      exact rv_iret .int dX10_told_96 rfl rfl (rRetIp h)
  refine rIf h (fun c17 h => ?_) (fun c17 h => ?_)
  · refine rv_tswIn 97 dX10_told_3 c17 (by decide) (by decide) rfl (by decide) ?_
    refine rv_aload_n 1 dX10_told_97 rfl ?_
    obtain ⟨v19, h18, h⟩ := rBind h
    refine rv_callVr (k3 := 0) (n3 := 0) (st2 := []) caX10_inDesign cvX10_inDesign ml_X10_188 dX10_told_98 rfl (E_X10_inDesign h18).2 (E_X10_inDesign h18).1 rfl rfl rfl rfl rfl ?_
    clear h18
    exact rv_iret .int dX10_told_101 rfl rfl (rRetIp h)
  refine rIf h (fun c20 h => ?_) (fun c20 h => ?_)
  · refine rv_tswIn 102 dX10_told_3 c20 (by decide) (by decide) rfl (by decide) ?_
    refine rv_aload_n 1 dX10_told_102 rfl ?_
    obtain ⟨v22, h21, h⟩ := rBind h
    refine rv_callVr (k3 := 0) (n3 := 0) (st2 := []) caX10_index cvX10_index ml_X10_281 dX10_told_103 rfl (E_X10_index h21).2 (E_X10_index h21).1 rfl rfl rfl rfl rfl ?_
    clear h21
    exact rv_iret .int dX10_told_106 rfl rfl (rRetIp h)
  refine rIf h (fun c23 h => ?_) (fun c23 h => ?_)
  · refine rv_tswIn 107 dX10_told_3 c23 (by decide) (by decide) rfl (by decide) ?_
    refine rv_iconst (v := 0) dX10_told_107 (by decide) ?_
    refine rv_istore_n (l2 := [(3, .int 0), (2, .int 0), (0, .ref x0), (1, .int x1)]) dX10_told_108 rfl rfl ?_
    exact rv_sub [2, 1, 0] rfl (E_X10_told_109 x0 w 2000 0 0 h)
  refine rIf h (fun c30 h => ?_) (fun c30 h => ?_)
  · refine rv_tswIn 134 dX10_told_3 c30 (by decide) (by decide) rfl (by decide) ?_
    refine rv_iconst (v := 1) dX10_told_134 (by decide) ?_
    refine rv_aload_n 1 dX10_told_135 rfl ?_
    refine rv_getI ff_X10_18 dX10_told_136 h (fun v31 h => ?_)
    refine rv_ishl dX10_told_139 ?_
    exact rv_iret .int dX10_told_140 rfl rfl (rRetIp h)
  refine rIf h (fun c32 h => ?_) (fun c32 h => ?_)
  · refine rv_tswIn 141 dX10_told_3 c32 (by decide) (by decide) rfl (by decide) ?_
    refine rv_aload_n 1 dX10_told_141 rfl ?_
    obtain ⟨v34, h33, h⟩ := rBind h
    refine rv_callVr (k3 := 0) (n3 := 0) (st2 := []) caX10_shape cvX10_shape ml_X10_132 dX10_told_142 rfl (E_X10_shape h33).2 (E_X10_shape h33).1 rfl rfl rfl rfl rfl ?_
    clear h33
    exact rv_iret .int dX10_told_145 rfl rfl (rRetIp h)
  refine rv_tswOut 146 [0, 1, 2, 3, 4, 5, 6, 7, 8, 9] dX10_told_3 (by decide) (by decide) (by decide) (fun v hv => ?_) ?_
  · simp only [List.mem_cons, List.not_mem_nil, or_false] at hv
    rcases hv with rfl | rfl | rfl | rfl | rfl | rfl | rfl | rfl | rfl | rfl
    · exact c1
    · exact c3
    · exact c6
    · exact c9
    · exact c13
    · exact c17
    · exact c20
    · exact c23
    · exact c30
    · exact c32
  refine rv_iconst (v := (-1)) dX10_told_146 (by decide) ?_
  exact rv_iret .int dX10_told_147 rfl rfl (rRetIp h)
set_option maxRecDepth 20000 in
theorem E_X10_block {x0 : Nat} {x1 : Int32} {r0 : Int32} {w : rW} (h : J_X10_block x0 x1 w = some r0) : (∃ fs, w[x0]? = some (cO 10 fs)) ∧ rMet mX10_block 2 0 0 [.ref x0, .int x1] w (rIs (some (.int r0)) w) := by
  unfold J_X10_block at h
  obtain ⟨hrc, h⟩ := rRc_some h
  refine ⟨hrc, ?_⟩
  refine rMet_of (by decide) rfl ?_
  refine rv_aload_n 0 dX10_block_0 rfl ?_
  refine rv_iload_n 1 dX10_block_1 rfl ?_
  obtain ⟨b2, h1, h⟩ := rBind h
  refine rv_callVr (k3 := 0) (n3 := 0) (st2 := []) caX10_isBlock cvX10_isBlock ml_X10_140 dX10_block_2 rfl (E_X10_isBlock h1).2 (E_X10_isBlock h1).1 rfl rfl rfl rfl rfl ?_
  clear h1
  refine rv_if_eq 17 dX10_block_5 (by decide) (fun c3 => ?_) (fun c3 => ?_)
  · replace h := rIfT h c3
    refine rv_iconst (v := (-1)) dX10_block_17 (by decide) ?_
    exact rv_iret .int dX10_block_18 rfl rfl (rRetIp h)
  · replace h := rIfF h c3
    refine rv_aload_n 0 dX10_block_8 rfl ?_
    refine rv_getR ff_X10_21 dX10_block_9 h (fun a4 h => ?_)
    refine rv_iload_n 1 dX10_block_12 rfl ?_
    refine rv_iaload dX10_block_13 h (fun v5 h => ?_)
    refine rv_goto 18 dX10_block_14 (by decide) ?_
    exact rv_iret .int dX10_block_18 rfl rfl (rRetIp h)
set_option maxRecDepth 20000 in
theorem E_X10_number {x0 : Nat} {x1 : Int32} {r0 : Int32} {w : rW} (h : J_X10_number x0 x1 w = some r0) : (∃ fs, w[x0]? = some (cO 10 fs)) ∧ rMet mX10_number 1 0 0 [.ref x0, .int x1] w (rIs (some (.int r0)) w) := by
  unfold J_X10_number at h
  obtain ⟨hrc, h⟩ := rRc_some h
  refine ⟨hrc, ?_⟩
  refine rMet_of (by decide) rfl ?_
  refine rv_iload_n 1 dX10_number_0 rfl ?_
  refine rv_i2l dX10_number_1 ?_
  refine rv_lconst (v := 0) dX10_number_2 (by decide) ?_
  refine rv_iconst (v := 1) dX10_number_3 (by decide) ?_
  refine rv_aload_n 0 dX10_number_4 rfl ?_
  refine rv_getI ff_X10_9 dX10_number_5 h (fun v1 h => ?_)
  refine rv_ishl dX10_number_8 ?_
  refine rv_iconst (v := 1) dX10_number_9 (by decide) ?_
  refine rv_isub dX10_number_10 ?_
  refine rv_i2l dX10_number_11 ?_
  obtain ⟨b3, h2, h⟩ := rBind h
  refine rv_callSr (k3 := 0) (n3 := 0) (st2 := []) (As := [.long (Int32.toInt64 x1), .long 0, .long (Int32.toInt64 ((1 <<< (v1 &&& 31)) - 1))]) caX10_in csX10_in ml_X10_116 dX10_number_12 rfl (E_X10_in h2) rfl rfl rfl rfl rfl ?_
  clear h2
  refine rv_if_eq 27 dX10_number_15 (by decide) (fun c4 => ?_) (fun c4 => ?_)
  · replace h := rIfT h c4
    refine rv_iconst (v := (-1)) dX10_number_27 (by decide) ?_
    exact rv_iret .int dX10_number_28 rfl rfl (rRetIp h)
  · replace h := rIfF h c4
    refine rv_aload_n 0 dX10_number_18 rfl ?_
    refine rv_getR ff_X10_25 dX10_number_19 h (fun a5 h => ?_)
    refine rv_iload_n 1 dX10_number_22 rfl ?_
    refine rv_iaload dX10_number_23 h (fun v6 h => ?_)
    refine rv_goto 28 dX10_number_24 (by decide) ?_
    exact rv_iret .int dX10_number_28 rfl rfl (rRetIp h)
set_option maxRecDepth 20000 in
theorem E_X10_of {x0 : Nat} {x1 : Int32} {x2 : Int32} {r0 : Int32} {w : rW} (h : J_X10_of x0 x1 x2 w = some r0) : (∃ fs, w[x0]? = some (cO 10 fs)) ∧ rMet mX10_of 2 0 0 [.ref x0, .int x1, .int x2] w (rIs (some (.int r0)) w) := by
  unfold J_X10_of at h
  obtain ⟨hrc, h⟩ := rRc_some h
  refine ⟨hrc, ?_⟩
  refine rMet_of (by decide) rfl ?_
  refine rv_aload_n 0 dX10_of_0 rfl ?_
  refine rv_iload_n 1 dX10_of_1 rfl ?_
  obtain ⟨b2, h1, h⟩ := rBind h
  refine rv_callVr (k3 := 0) (n3 := 0) (st2 := []) caX10_isBlock cvX10_isBlock ml_X10_140 dX10_of_2 rfl (E_X10_isBlock h1).2 (E_X10_isBlock h1).1 rfl rfl rfl rfl rfl ?_
  clear h1
  refine rv_if_eq 20 dX10_of_5 (by decide) (fun c3 => ?_) (fun c3 => ?_)
  · replace h := rIfT h c3
    refine rv_iconst (v := (-1)) dX10_of_20 (by decide) ?_
    exact rv_iret .int dX10_of_21 rfl rfl (rRetIp h)
  · replace h := rIfF h c3
    refine rv_iload_n 2 dX10_of_8 rfl ?_
    refine rv_i2l dX10_of_9 ?_
    refine rv_lconst (v := 0) dX10_of_10 (by decide) ?_
    refine rv_ldc2 dX10_of_11 kl_X10_124 ?_
    obtain ⟨b5, h4, h⟩ := rBind h
    refine rv_callSr (k3 := 0) (n3 := 0) (st2 := []) (As := [.long (Int32.toInt64 x2), .long 0, .long 2]) caX10_in csX10_in ml_X10_116 dX10_of_14 rfl (E_X10_in h4) rfl rfl rfl rfl rfl ?_
    clear h4
    refine rv_if_ne 22 dX10_of_17 (by decide) (fun c6 => ?_) (fun c6 => ?_)
    · replace h := rIfF h c6
      refine rv_iload_n 2 dX10_of_22 rfl ?_
      refine rv_if_ne 38 dX10_of_23 (by decide) (fun c7 => ?_) (fun c7 => ?_)
      · replace h := rIfF h c7
        refine rv_iload_n 2 dX10_of_38 rfl ?_
        refine rv_iconst (v := 1) dX10_of_39 (by decide) ?_
        refine rv_icmp_ne 52 dX10_of_40 (by decide) (fun c8 => ?_) (fun c8 => ?_)
        · replace h := rIfF h c8
          refine rv_aload_n 0 dX10_of_52 rfl ?_
          refine rv_getR ff_X10_34 dX10_of_53 h (fun a9 h => ?_)
          refine rv_iload_n 1 dX10_of_56 rfl ?_
          refine rv_iaload dX10_of_57 h (fun v10 h => ?_)
          exact rv_iret .int dX10_of_58 rfl rfl (rRetIp h)
        · replace h := rIfT h c8
          refine rv_aload_n 0 dX10_of_43 rfl ?_
          refine rv_getR ff_X10_31 dX10_of_44 h (fun a11 h => ?_)
          refine rv_iload_n 1 dX10_of_47 rfl ?_
          refine rv_iaload dX10_of_48 h (fun v12 h => ?_)
          refine rv_goto 58 dX10_of_49 (by decide) ?_
          exact rv_iret .int dX10_of_58 rfl rfl (rRetIp h)
      · replace h := rIfT h c7
        refine rv_aload_n 0 dX10_of_26 rfl ?_
        refine rv_getR ff_X10_28 dX10_of_27 h (fun a13 h => ?_)
        refine rv_iload_n 1 dX10_of_30 rfl ?_
        refine rv_iaload dX10_of_31 h (fun v14 h => ?_)
        refine rv_bipush (v := 100) dX10_of_32 (by decide) ?_
        refine rv_iadd dX10_of_34 ?_
        refine rv_goto 58 dX10_of_35 (by decide) ?_
        exact rv_iret .int dX10_of_58 rfl rfl (rRetIp h)
    · replace h := rIfT h c6
      refine rv_iconst (v := (-1)) dX10_of_20 (by decide) ?_
      exact rv_iret .int dX10_of_21 rfl rfl (rRetIp h)
set_option maxRecDepth 20000 in
theorem E_X10_sum {x0 : Nat} {x1 : Int32} {r0 : Int32} {w : rW} (h : J_X10_sum x0 x1 w = some r0) : (∃ fs, w[x0]? = some (cO 10 fs)) ∧ rMet mX10_sum 3 0 0 [.ref x0, .int x1] w (rIs (some (.int r0)) w) := by
  unfold J_X10_sum at h
  obtain ⟨hrc, h⟩ := rRc_some h
  refine ⟨hrc, ?_⟩
  refine rMet_of (by decide) rfl ?_
  refine rv_aload_n 0 dX10_sum_0 rfl ?_
  refine rv_iload_n 1 dX10_sum_1 rfl ?_
  refine rv_aload_n 0 dX10_sum_2 rfl ?_
  refine rv_getI ff_X10_15 dX10_sum_3 h (fun v1 h => ?_)
  obtain ⟨b3, h2, h⟩ := rBind h
  refine rv_callVr (k3 := 0) (n3 := 0) (st2 := []) caX10_isSet cvX10_isSet ml_X10_284 dX10_sum_6 rfl (E_X10_isSet h2).2 (E_X10_isSet h2).1 rfl rfl rfl rfl rfl ?_
  clear h2
  refine rv_if_eq 24 dX10_sum_9 (by decide) (fun c4 => ?_) (fun c4 => ?_)
  · replace h := rIfT h c4
    refine rv_iconst (v := (-1)) dX10_sum_24 (by decide) ?_
    exact rv_iret .int dX10_sum_25 rfl rfl (rRetIp h)
  · replace h := rIfF h c4
    refine rv_aload_n 0 dX10_sum_12 rfl ?_
    refine rv_iload_n 1 dX10_sum_13 rfl ?_
    obtain ⟨v6, h5, h⟩ := rBind h
    refine rv_callVr (k3 := 0) (n3 := 0) (st2 := []) caX10_sumOf cvX10_sumOf ml_X10_170 dX10_sum_14 rfl (E_X10_sumOf h5).2 (E_X10_sumOf h5).1 rfl rfl rfl rfl rfl ?_
    clear h5
    refine rv_sipush (v := 10000) dX10_sum_17 (by decide) ?_
    refine rv_iadd dX10_sum_20 ?_
    refine rv_goto 25 dX10_sum_21 (by decide) ?_
    exact rv_iret .int dX10_sum_25 rfl rfl (rRetIp h)
set_option maxRecDepth 20000 in
theorem E_X10_amiss_12 {r0 : Int32}  (x0 : Nat) (x1 : Int32) (w : rW)  {K46 : Option Int32} (hK46 : K46 = some r0 → rEv mX10_amiss 2 0 0 46 [(0, .ref x0), (1, .int x1)] [] w (rIs (some (.int r0)) w)) : ∀ (f : Nat) (x2 : Int32), J_X10_amiss_12 x0 x1 w K46 f x2 = some r0 → rEv mX10_amiss 2 0 0 12 [(0, .ref x0), (1, .int x1), (2, .int x2)] [] w (rIs (some (.int r0)) w) := by
  intro f
  induction f with
  | zero =>
    intro x2 h
    exact absurd (show (none : Option Int32) = some r0 from h) (by simp)
  | succ f ih =>
    intro x2 h
    rw [J_X10_amiss_12] at h
    refine rv_iload_n 2 dX10_amiss_12 rfl ?_
    refine rv_iconst (v := 1) dX10_amiss_13 (by decide) ?_
    refine rv_aload_n 0 dX10_amiss_14 rfl ?_
    refine rv_getI ff_X10_9 dX10_amiss_15 h (fun v4 h => ?_)
    refine rv_ishl dX10_amiss_18 ?_
    refine rv_icmp_ge 46 dX10_amiss_19 (by decide) (fun c5 => ?_) (fun c5 => ?_)
    · replace h := rIfT h c5
      exact rv_sub [0, 1] rfl (hK46 h)
    · replace h := rIfF h c5
      refine rv_iload_n 2 dX10_amiss_22 rfl ?_
      obtain ⟨v7, h6, h⟩ := rBind h
      refine rv_callSr (k3 := 0) (n3 := 0) (st2 := []) (As := [.int x2]) caX10_size csX10_size ml_X10_113 dX10_amiss_23 rfl (E_X10_size h6) rfl rfl rfl rfl rfl ?_
      clear h6
      refine rv_iload_n 1 dX10_amiss_26 rfl ?_
      obtain ⟨K40, eK40, h⟩ := rLetE h
      have hK40 : K40 = some r0 → rEv mX10_amiss 2 0 0 40 [(0, .ref x0), (1, .int x1), (2, .int x2)] [] w (rIs (some (.int r0)) w) := by
        intro h
        rw [eK40] at h
        obtain ⟨v8, ev8, h⟩ := rLetE h
        refine rv_iinc (v := v8) (l2 := [(2, .int v8), (0, .ref x0), (1, .int x1)]) 2 dX10_amiss_40 rfl (by rw [ev8]; rfl) rfl rfl ?_
        clear ev8
        refine rv_goto 12 dX10_amiss_43 (by decide) ?_
        exact rv_sub [1, 2, 0] rfl (ih v8 h)
      clear eK40
      refine rv_icmp_ne 40 dX10_amiss_27 (by decide) (fun c9 => ?_) (fun c9 => ?_)
      · replace h := rIfF h c9
        exact rv_sub [0, 1, 2] rfl (hK40 h)
      · replace h := rIfT h c9
        refine rv_aload_n 0 dX10_amiss_30 rfl ?_
        refine rv_iload_n 2 dX10_amiss_31 rfl ?_
        obtain ⟨v11, h10, h⟩ := rBind h
        refine rv_callVr (k3 := 0) (n3 := 0) (st2 := []) caX10_sumOf cvX10_sumOf ml_X10_170 dX10_amiss_32 rfl (E_X10_sumOf h10).2 (E_X10_sumOf h10).1 rfl rfl rfl rfl rfl ?_
        clear h10
        refine rv_if_eq 40 dX10_amiss_35 (by decide) (fun c12 => ?_) (fun c12 => ?_)
        · replace h := rIfT h c12
          exact rv_sub [0, 1, 2] rfl (hK40 h)
        · replace h := rIfF h c12
          refine rv_iload_n 2 dX10_amiss_38 rfl ?_
          exact rv_iret .int dX10_amiss_39 rfl rfl (rRetIp h)
set_option maxRecDepth 20000 in
theorem E_X10_amiss_2 {r0 : Int32}  (x0 : Nat) (w : rW)   : ∀ (f : Nat) (x1 : Int32), J_X10_amiss_2 x0 w f x1 = some r0 → rEv mX10_amiss 2 0 0 2 [(0, .ref x0), (1, .int x1)] [] w (rIs (some (.int r0)) w) := by
  intro f
  induction f with
  | zero =>
    intro x1 h
    exact absurd (show (none : Option Int32) = some r0 from h) (by simp)
  | succ f ih =>
    intro x1 h
    rw [J_X10_amiss_2] at h
    refine rv_iload_n 1 dX10_amiss_2 rfl ?_
    refine rv_aload_n 0 dX10_amiss_3 rfl ?_
    refine rv_getI ff_X10_18 dX10_amiss_4 h (fun v1 h => ?_)
    refine rv_icmp_gt 52 dX10_amiss_7 (by decide) (fun c2 => ?_) (fun c2 => ?_)
    · replace h := rIfT h c2
      refine rv_bipush (v := (-5)) dX10_amiss_52 (by decide) ?_
      exact rv_iret .int dX10_amiss_54 rfl rfl (rRetIp h)
    · replace h := rIfF h c2
      refine rv_iconst (v := 0) dX10_amiss_10 (by decide) ?_
      refine rv_istore_n (l2 := [(2, .int 0), (0, .ref x0), (1, .int x1)]) dX10_amiss_11 rfl rfl ?_
      obtain ⟨K46, eK46, h⟩ := rLetE h
      have hK46 : K46 = some r0 → rEv mX10_amiss 2 0 0 46 [(0, .ref x0), (1, .int x1)] [] w (rIs (some (.int r0)) w) := by
        intro h
        rw [eK46] at h
        obtain ⟨v3, ev3, h⟩ := rLetE h
        refine rv_iinc (v := v3) (l2 := [(1, .int v3), (0, .ref x0)]) 1 dX10_amiss_46 rfl (by rw [ev3]; rfl) rfl rfl ?_
        clear ev3
        refine rv_goto 2 dX10_amiss_49 (by decide) ?_
        exact rv_sub [1, 0] rfl (ih v3 h)
      clear eK46
      exact rv_sub [1, 2, 0] rfl (E_X10_amiss_12 x0 x1 w hK46 2000 0 h)
set_option maxRecDepth 20000 in
theorem E_X10_amiss {x0 : Nat} {r0 : Int32} {w : rW} (h : J_X10_amiss x0 w = some r0) : (∃ fs, w[x0]? = some (cO 10 fs)) ∧ rMet mX10_amiss 2 0 0 [.ref x0] w (rIs (some (.int r0)) w) := by
  unfold J_X10_amiss at h
  obtain ⟨hrc, h⟩ := rRc_some h
  refine ⟨hrc, ?_⟩
  refine rMet_of (by decide) rfl ?_
  refine rv_iconst (v := 0) dX10_amiss_0 (by decide) ?_
  refine rv_istore_n (l2 := [(1, .int 0), (0, .ref x0)]) dX10_amiss_1 rfl rfl ?_
  exact rv_sub [1, 0] rfl (E_X10_amiss_2 x0 w 2000 0 h)
set_option maxRecDepth 20000 in
theorem E_X10_cover {x0 : Nat} {x1 : Int32} {r0 : Int32} {w : rW} (h : J_X10_cover x0 x1 w = some r0) : (∃ fs, w[x0]? = some (cO 10 fs)) ∧ rMet mX10_cover 3 0 0 [.ref x0, .int x1] w (rIs (some (.int r0)) w) := by
  unfold J_X10_cover at h
  obtain ⟨hrc, h⟩ := rRc_some h
  refine ⟨hrc, ?_⟩
  refine rMet_of (by decide) rfl ?_
  refine rv_aload_n 0 dX10_cover_0 rfl ?_
  refine rv_iload_n 1 dX10_cover_1 rfl ?_
  refine rv_aload_n 0 dX10_cover_2 rfl ?_
  refine rv_getI ff_X10_15 dX10_cover_3 h (fun v1 h => ?_)
  obtain ⟨b3, h2, h⟩ := rBind h
  refine rv_callVr (k3 := 0) (n3 := 0) (st2 := []) caX10_isSet cvX10_isSet ml_X10_284 dX10_cover_6 rfl (E_X10_isSet h2).2 (E_X10_isSet h2).1 rfl rfl rfl rfl rfl ?_
  clear h2
  refine rv_if_eq 20 dX10_cover_9 (by decide) (fun c4 => ?_) (fun c4 => ?_)
  · replace h := rIfT h c4
    refine rv_iconst (v := (-1)) dX10_cover_20 (by decide) ?_
    exact rv_iret .int dX10_cover_21 rfl rfl (rRetIp h)
  · replace h := rIfF h c4
    refine rv_aload_n 0 dX10_cover_12 rfl ?_
    refine rv_iload_n 1 dX10_cover_13 rfl ?_
    obtain ⟨v6, h5, h⟩ := rBind h
    refine rv_callVr (k3 := 0) (n3 := 0) (st2 := []) caX10_coverOf cvX10_coverOf ml_X10_275 dX10_cover_14 rfl (E_X10_coverOf h5).2 (E_X10_coverOf h5).1 rfl rfl rfl rfl rfl ?_
    clear h5
    refine rv_goto 21 dX10_cover_17 (by decide) ?_
    exact rv_iret .int dX10_cover_21 rfl rfl (rRetIp h)
set_option maxRecDepth 20000 in
theorem E_X10_write {x0 : Nat} {x1 : Int32} {w0 : rW} {w : rW} (h : J_X10_write x0 x1 w = some w0) : (∃ fs, w[x0]? = some (cO 10 fs)) ∧ rMet mX10_write 0 0 0 [.ref x0, .int x1] w (rIs none w0) := by
  unfold J_X10_write at h
  obtain ⟨hrc, h⟩ := rRc_some h
  refine ⟨hrc, ?_⟩
  refine rMet_of (by decide) rfl ?_
  refine rv_aload_n 0 dX10_write_0 rfl ?_
  refine rv_getR ff_X10_89 dX10_write_1 h (fun a1 h => ?_)
  refine rv_aload_n 0 dX10_write_4 rfl ?_
  refine rv_dup dX10_write_5 rfl ?_
  refine rv_getI ff_X10_288 dX10_write_6 h (fun v2 h => ?_)
  refine rv_dup_x1 dX10_write_9 rfl rfl ?_
  refine rv_iconst (v := 1) dX10_write_10 (by decide) ?_
  refine rv_iadd dX10_write_11 ?_
  refine rv_putI ff_X10_288 (fp_X10_34 _) dX10_write_12 h (fun w3 h => ?_)
  refine rv_iload_n 1 dX10_write_15 rfl ?_
  refine rv_iastore dX10_write_16 h (fun w4 h => ?_)
  exact rv_vret dX10_write_17 rfl (rRetV h)
set_option maxRecDepth 20000 in
theorem E_X10_writes_91 {w0 : rW}  (x0 : Nat) (x1 : Int32)  {K130 : rW → Option rW} (hK130 : ∀ (w : rW), K130 w = some w0 → rEv mX10_writes 1 0 0 130 [(0, .ref x0), (1, .int x1)] [] w (rIs none w0)) : ∀ (f : Nat) (x4 : Int32) (w : rW), J_X10_writes_91 x0 x1 K130 f x4 w = some w0 → rEv mX10_writes 1 0 0 91 [(0, .ref x0), (1, .int x1), (4, .int x4)] [] w (rIs none w0) := by
  intro f
  induction f with
  | zero =>
    intro x4 w h
    exact absurd (show (none : Option rW) = some w0 from h) (by simp)
  | succ f ih =>
    intro x4 w h
    rw [J_X10_writes_91] at h
    refine rv_iload 2 dX10_writes_91 rfl ?_
    refine rv_aload_n 0 dX10_writes_93 rfl ?_
    refine rv_getI ff_X10_9 dX10_writes_94 h (fun v21 h => ?_)
    refine rv_icmp_ge 130 dX10_writes_97 (by decide) (fun c22 => ?_) (fun c22 => ?_)
    · replace h := rIfT h c22
      exact rv_sub [0, 1] rfl (hK130 w h)
    · replace h := rIfF h c22
      refine rv_aload_n 0 dX10_writes_100 rfl ?_
      refine rv_getR ff_X10_21 dX10_writes_101 h (fun a23 h => ?_)
      refine rv_iload_n 1 dX10_writes_104 rfl ?_
      refine rv_iaload dX10_writes_105 h (fun v24 h => ?_)
      refine rv_iload 2 dX10_writes_106 rfl ?_
      refine rv_ishr dX10_writes_108 ?_
      refine rv_iconst (v := 1) dX10_writes_109 (by decide) ?_
      refine rv_iand dX10_writes_110 ?_
      refine rv_iconst (v := 1) dX10_writes_111 (by decide) ?_
      obtain ⟨K124, eK124, h⟩ := rLetE h
      have hK124 : ∀ (w : rW), K124 w = some w0 → rEv mX10_writes 1 0 0 124 [(0, .ref x0), (1, .int x1), (4, .int x4)] [] w (rIs none w0) := by
        intro w25 h
        rw [eK124] at h
        obtain ⟨v26, ev26, h⟩ := rLetE h
        refine rv_iinc (v := v26) (l2 := [(4, .int v26), (0, .ref x0), (1, .int x1)]) 2 dX10_writes_124 rfl (by rw [ev26]; rfl) rfl rfl ?_
        clear ev26
        refine rv_goto 91 dX10_writes_127 (by decide) ?_
        exact rv_sub [1, 2, 0] rfl (ih v26 w25 h)
      clear eK124
      refine rv_icmp_ne 124 dX10_writes_112 (by decide) (fun c27 => ?_) (fun c27 => ?_)
      · replace h := rIfF h c27
        exact rv_sub [0, 1, 2] rfl (hK124 w h)
      · replace h := rIfT h c27
        refine rv_aload_n 0 dX10_writes_115 rfl ?_
        refine rv_bipush (v := 48) dX10_writes_116 (by decide) ?_
        refine rv_iload 2 dX10_writes_118 rfl ?_
        refine rv_iadd dX10_writes_120 ?_
        obtain ⟨w29, h28, h⟩ := rBind h
        refine rv_callVv (k3 := 0) (n3 := 0) (st2 := []) caX10_write cvX10_write ml_X10_291 dX10_writes_121 rfl (E_X10_write h28).2 (E_X10_write h28).1 rfl rfl rfl rfl rfl ?_
        clear h28
        exact rv_sub [0, 1, 2] rfl (hK124 w29 h)
set_option maxRecDepth 20000 in
theorem E_X10_writes_7 {w0 : rW}  (x0 : Nat)  {K136 : rW → Option rW} (hK136 : ∀ (w : rW), K136 w = some w0 → rEv mX10_writes 1 0 0 136 [(0, .ref x0)] [] w (rIs none w0)) : ∀ (f : Nat) (x1 : Int32) (w : rW), J_X10_writes_7 x0 K136 f x1 w = some w0 → rEv mX10_writes 1 0 0 7 [(0, .ref x0), (1, .int x1)] [] w (rIs none w0) := by
  intro f
  induction f with
  | zero =>
    intro x1 w h
    exact absurd (show (none : Option rW) = some w0 from h) (by simp)
  | succ f ih =>
    intro x1 w h
    rw [J_X10_writes_7] at h
    refine rv_iload_n 1 dX10_writes_7 rfl ?_
    refine rv_aload_n 0 dX10_writes_8 rfl ?_
    refine rv_getI ff_X10_110 dX10_writes_9 h (fun v7 h => ?_)
    refine rv_icmp_ge 136 dX10_writes_12 (by decide) (fun c8 => ?_) (fun c8 => ?_)
    · replace h := rIfT h c8
      exact rv_sub [0] rfl (hK136 w h)
    · replace h := rIfF h c8
      refine rv_aload_n 0 dX10_writes_15 rfl ?_
      refine rv_getR ff_X10_28 dX10_writes_16 h (fun a9 h => ?_)
      refine rv_iload_n 1 dX10_writes_19 rfl ?_
      refine rv_iaload dX10_writes_20 h (fun v10 h => ?_)
      refine rv_istore_n (l2 := [(2, .int v10), (0, .ref x0), (1, .int x1)]) dX10_writes_21 rfl rfl ?_
      refine rv_iload_n 0 dX10_writes_22 rfl ?_
      obtain ⟨K130, eK130, h⟩ := rLetE h
      have hK130 : ∀ (w : rW), K130 w = some w0 → rEv mX10_writes 1 0 0 130 [(0, .ref x0), (1, .int x1)] [] w (rIs none w0) := by
        intro w11 h
        rw [eK130] at h
        obtain ⟨v12, ev12, h⟩ := rLetE h
        refine rv_iinc (v := v12) (l2 := [(1, .int v12), (0, .ref x0)]) 1 dX10_writes_130 rfl (by rw [ev12]; rfl) rfl rfl ?_
        clear ev12
        refine rv_goto 7 dX10_writes_133 (by decide) ?_
        exact rv_sub [1, 0] rfl (ih v12 w11 h)
      clear eK130
      refine rv_if_ne 29 dX10_writes_23 (by decide) (fun c13 => ?_) (fun c13 => ?_)
      · replace h := rIfF h c13
        refine rv_aload_n 1 dX10_writes_29 rfl ?_
        refine rv_iload_n 0 dX10_writes_30 rfl ?_
        obtain ⟨K41, eK41, h⟩ := rLetE h
        have hK41 : ∀ (z0 : Nat) (z1 : Int32), K41 z0 z1 = some w0 → rEv mX10_writes 1 0 0 41 [(0, .ref x0), (1, .int x1), (2, .int v10)] [.int z1, .ref z0] w (rIs none w0) := by
          intro z14 z15 h
          rw [eK41] at h
          obtain ⟨w17, h16, h⟩ := rBind h
          refine rv_callVv (k3 := 0) (n3 := 0) (st2 := []) caX10_write cvX10_write ml_X10_291 dX10_writes_41 rfl (E_X10_write h16).2 (E_X10_write h16).1 rfl rfl rfl rfl rfl ?_
          clear h16
          refine rv_iload_n 2 dX10_writes_44 rfl ?_
          refine rv_mabs ml_X10_295 sm_J9_abs_0f7a4 in_J9 co_J9_abs_0f7a4 dX10_writes_45 rfl rfl ?_
          refine rv_letI h (fun v18 h => ?_)
          refine rv_istore_n (l2 := [(3, .int v18), (0, .ref x0), (1, .int x1), (2, .int v10)]) dX10_writes_48 rfl rfl ?_
          refine rv_iload_n 0 dX10_writes_49 rfl ?_
          refine rv_bipush (v := 9) dX10_writes_50 (by decide) ?_
          obtain ⟨K66, eK66, h⟩ := rLetE h
          have hK66 : ∀ (w : rW), K66 w = some w0 → rEv mX10_writes 1 0 0 66 [(0, .ref x0), (1, .int x1), (3, .int v18)] [] w (rIs none w0) := by
            intro w19 h
            rw [eK66] at h
            refine rv_iload_n 2 dX10_writes_66 rfl ?_
            refine rv_iconst (v := 1) dX10_writes_67 (by decide) ?_
            obtain ⟨K88, eK88, h⟩ := rLetE h
            have hK88 : ∀ (w : rW), K88 w = some w0 → rEv mX10_writes 1 0 0 88 [(0, .ref x0), (1, .int x1)] [] w (rIs none w0) := by
              intro w20 h
              rw [eK88] at h
              refine rv_iconst (v := 0) dX10_writes_88 (by decide) ?_
              refine rv_istore (l2 := [(4, .int 0), (0, .ref x0), (1, .int x1)]) dX10_writes_89 rfl rfl ?_
              exact rv_sub [1, 2, 0] rfl (E_X10_writes_91 x0 x1 hK130 2000 0 w20 h)
            clear eK88
            refine rv_icmp_eq 88 dX10_writes_68 (by decide) (fun c30 => ?_) (fun c30 => ?_)
            · replace h := rIfT h c30
              exact rv_sub [0, 1] rfl (hK88 w19 h)
            · replace h := rIfF h c30
              refine rv_aload_n 0 dX10_writes_71 rfl ?_
              refine rv_bipush (v := 48) dX10_writes_72 (by decide) ?_
              refine rv_iload_n 2 dX10_writes_74 rfl ?_
              refine rv_bipush (v := 10) dX10_writes_75 (by decide) ?_
              refine rv_iremB dX10_writes_77 h (fun v31 h => ?_)
              refine rv_iadd dX10_writes_78 ?_
              obtain ⟨w33, h32, h⟩ := rBind h
              refine rv_callVv (k3 := 0) (n3 := 0) (st2 := []) caX10_write cvX10_write ml_X10_291 dX10_writes_79 rfl (E_X10_write h32).2 (E_X10_write h32).1 rfl rfl rfl rfl rfl ?_
              clear h32
              refine rv_aload_n 0 dX10_writes_82 rfl ?_
              refine rv_bipush (v := 42) dX10_writes_83 (by decide) ?_
              obtain ⟨w35, h34, h⟩ := rBind h
              refine rv_callVv (k3 := 0) (n3 := 0) (st2 := []) caX10_write cvX10_write ml_X10_291 dX10_writes_85 rfl (E_X10_write h34).2 (E_X10_write h34).1 rfl rfl rfl rfl rfl ?_
              clear h34
              exact rv_sub [0, 1] rfl (hK88 w35 h)
          clear eK66
          refine rv_icmp_le 66 dX10_writes_52 (by decide) (fun c36 => ?_) (fun c36 => ?_)
          · replace h := rIfT h c36
            exact rv_sub [1, 2, 0] rfl (hK66 w17 h)
          · replace h := rIfF h c36
            refine rv_aload_n 1 dX10_writes_55 rfl ?_
            refine rv_bipush (v := 48) dX10_writes_56 (by decide) ?_
            refine rv_iload_n 0 dX10_writes_58 rfl ?_
            refine rv_bipush (v := 10) dX10_writes_59 (by decide) ?_
            refine rv_idivB dX10_writes_61 h (fun v37 h => ?_)
            refine rv_iadd dX10_writes_62 ?_
            obtain ⟨w39, h38, h⟩ := rBind h
            refine rv_callVv (k3 := 0) (n3 := 0) (st2 := []) caX10_write cvX10_write ml_X10_291 dX10_writes_63 rfl (E_X10_write h38).2 (E_X10_write h38).1 rfl rfl rfl rfl rfl ?_
            clear h38
            exact rv_sub [1, 2, 0] rfl (hK66 w39 h)
        clear eK41
        refine rv_if_le 39 dX10_writes_31 (by decide) (fun c40 => ?_) (fun c40 => ?_)
        · replace h := rIfT h c40
          refine rv_bipush (v := 45) dX10_writes_39 (by decide) ?_
          exact rv_sub [1, 2, 0] rfl (hK41 x0 45 h)
        · replace h := rIfF h c40
          refine rv_bipush (v := 43) dX10_writes_34 (by decide) ?_
          refine rv_goto 41 dX10_writes_36 (by decide) ?_
          exact rv_sub [1, 2, 0] rfl (hK41 x0 43 h)
      · replace h := rIfT h c13
        refine rv_goto 130 dX10_writes_26 (by decide) ?_
        exact rv_sub [1, 2] rfl (hK130 w h)
set_option maxRecDepth 20000 in
theorem E_X10_writes {x0 : Nat} {w0 : rW} {w : rW} (h : J_X10_writes x0 w = some w0) : (∃ fs, w[x0]? = some (cO 10 fs)) ∧ rMet mX10_writes 1 0 0 [.ref x0] w (rIs none w0) := by
  unfold J_X10_writes at h
  obtain ⟨hrc, h⟩ := rRc_some h
  refine ⟨hrc, ?_⟩
  refine rMet_of (by decide) rfl ?_
  refine rv_aload_n 0 dX10_writes_0 rfl ?_
  refine rv_iconst (v := 0) dX10_writes_1 (by decide) ?_
  refine rv_putI ff_X10_288 (fp_X10_34 _) dX10_writes_2 h (fun w1 h => ?_)
  refine rv_iconst (v := 0) dX10_writes_5 (by decide) ?_
  refine rv_istore_n (l2 := [(1, .int 0), (0, .ref x0)]) dX10_writes_6 rfl rfl ?_
  obtain ⟨K136, eK136, h⟩ := rLetE h
  have hK136 : ∀ (w : rW), K136 w = some w0 → rEv mX10_writes 1 0 0 136 [(0, .ref x0)] [] w (rIs none w0) := by
    intro w2 h
    rw [eK136] at h
    refine rv_aload_n 0 dX10_writes_136 rfl ?_
    refine rv_getI ff_X10_288 dX10_writes_137 h (fun v3 h => ?_)
    refine rv_if_ne 149 dX10_writes_140 (by decide) (fun c4 => ?_) (fun c4 => ?_)
    · replace h := rIfF h c4
      exact rv_vret dX10_writes_149 rfl (rRetV h)
    · replace h := rIfT h c4
      refine rv_aload_n 0 dX10_writes_143 rfl ?_
      refine rv_bipush (v := 48) dX10_writes_144 (by decide) ?_
      obtain ⟨w6, h5, h⟩ := rBind h
      refine rv_callVv (k3 := 0) (n3 := 0) (st2 := []) caX10_write cvX10_write ml_X10_291 dX10_writes_146 rfl (E_X10_write h5).2 (E_X10_write h5).1 rfl rfl rfl rfl rfl ?_
      clear h5
      exact rv_vret dX10_writes_149 rfl (rRetV h)
  clear eK136
  exact rv_sub [1, 0] rfl (E_X10_writes_7 x0 hK136 2000 0 w1 h)
set_option maxRecDepth 20000 in
theorem E_X10_written {x0 : Nat} {x1 : Int32} {r0 : Int32} {w0 : rW} {w : rW} (h : J_X10_written x0 x1 w = some (r0, w0)) : (∃ fs, w[x0]? = some (cO 10 fs)) ∧ rMet mX10_written 2 0 0 [.ref x0, .int x1] w (rIs (some (.int r0)) w0) := by
  unfold J_X10_written at h
  obtain ⟨hrc, h⟩ := rRc_some h
  refine ⟨hrc, ?_⟩
  refine rMet_of (by decide) rfl ?_
  refine rv_iload_n 1 dX10_written_0 rfl ?_
  refine rv_if_ge 6 dX10_written_1 (by decide) (fun c1 => ?_) (fun c1 => ?_)
  · replace h := rIfT h c1
    refine rv_aload_n 0 dX10_written_6 rfl ?_
    obtain ⟨w3, h2, h⟩ := rBind h
    refine rv_callVv (k3 := 0) (n3 := 0) (st2 := []) caX10_writes cvX10_writes ml_X10_298 dX10_written_7 rfl (E_X10_writes h2).2 (E_X10_writes h2).1 rfl rfl rfl rfl rfl ?_
    clear h2
    refine rv_iload_n 1 dX10_written_10 rfl ?_
    refine rv_aload_n 0 dX10_written_11 rfl ?_
    refine rv_getI ff_X10_288 dX10_written_12 h (fun v4 h => ?_)
    refine rv_icmp_ge 27 dX10_written_15 (by decide) (fun c5 => ?_) (fun c5 => ?_)
    · replace h := rIfT h c5
      refine rv_bipush (v := (-5)) dX10_written_27 (by decide) ?_
      exact rv_iret .int dX10_written_29 rfl rfl (rRetIw h)
    · replace h := rIfF h c5
      refine rv_aload_n 0 dX10_written_18 rfl ?_
      refine rv_getR ff_X10_89 dX10_written_19 h (fun a6 h => ?_)
      refine rv_iload_n 1 dX10_written_22 rfl ?_
      refine rv_iaload dX10_written_23 h (fun v7 h => ?_)
      refine rv_goto 29 dX10_written_24 (by decide) ?_
      exact rv_iret .int dX10_written_29 rfl rfl (rRetIw h)
  · replace h := rIfF h c1
    refine rv_iconst (v := (-1)) dX10_written_4 (by decide) ?_
    exact rv_iret .int dX10_written_5 rfl rfl (rRetIw h)
set_option maxRecDepth 20000 in
theorem E_X10_isOpen_2 {r0 : Bool}  (x0 : Nat) (x1 : Int32) (w : rW)   : ∀ (f : Nat) (x2 : Int32), J_X10_isOpen_2 x0 x1 w f x2 = some r0 → rEv mX10_isOpen 0 0 0 2 [(0, .ref x0), (1, .int x1), (2, .int x2)] [] w (rIs (some (.int (bi r0))) w) := by
  intro f
  induction f with
  | zero =>
    intro x2 h
    exact absurd (show (none : Option Bool) = some r0 from h) (by simp)
  | succ f ih =>
    intro x2 h
    rw [J_X10_isOpen_2] at h
    refine rv_iload_n 2 dX10_isOpen_2 rfl ?_
    refine rv_aload_n 0 dX10_isOpen_3 rfl ?_
    refine rv_getI ff_X10_110 dX10_isOpen_4 h (fun v1 h => ?_)
    refine rv_icmp_ge 56 dX10_isOpen_7 (by decide) (fun c2 => ?_) (fun c2 => ?_)
    · replace h := rIfT h c2
      refine rv_iconst (v := 1) dX10_isOpen_56 (by decide) ?_
      exact rv_iret .boolean dX10_isOpen_57 rfl (by decide) (rRetZp (x := 1) h rfl)
    · replace h := rIfF h c2
      refine rv_iload_n 1 dX10_isOpen_10 rfl ?_
      refine rv_aload_n 0 dX10_isOpen_11 rfl ?_
      refine rv_getR ff_X10_80 dX10_isOpen_12 h (fun a3 h => ?_)
      refine rv_iload_n 2 dX10_isOpen_15 rfl ?_
      refine rv_iaload dX10_isOpen_16 h (fun v4 h => ?_)
      refine rv_imul dX10_isOpen_17 ?_
      refine rv_letI h (fun v5 h => ?_)
      refine rv_istore_n (l2 := [(3, .int v5), (0, .ref x0), (1, .int x1), (2, .int x2)]) dX10_isOpen_18 rfl rfl ?_
      refine rv_iload_n 0 dX10_isOpen_19 rfl ?_
      refine rv_iconst (v := (-1)) dX10_isOpen_20 (by decide) ?_
      obtain ⟨K33, eK33, h⟩ := rLetE h
      have hK33 : K33 = some r0 → rEv mX10_isOpen 0 0 0 33 [(0, .ref x0), (1, .int x1), (2, .int x2), (3, .int v5)] [] w (rIs (some (.int (bi r0))) w) := by
        intro h
        rw [eK33] at h
        refine rv_iload_n 3 dX10_isOpen_33 rfl ?_
        refine rv_iconst (v := 1) dX10_isOpen_34 (by decide) ?_
        obtain ⟨K50, eK50, h⟩ := rLetE h
        have hK50 : K50 = some r0 → rEv mX10_isOpen 0 0 0 50 [(0, .ref x0), (1, .int x1), (2, .int x2)] [] w (rIs (some (.int (bi r0))) w) := by
          intro h
          rw [eK50] at h
          obtain ⟨v6, ev6, h⟩ := rLetE h
          refine rv_iinc (v := v6) (l2 := [(2, .int v6), (0, .ref x0), (1, .int x1)]) 2 dX10_isOpen_50 rfl (by rw [ev6]; rfl) rfl rfl ?_
          clear ev6
          refine rv_goto 2 dX10_isOpen_53 (by decide) ?_
          exact rv_sub [1, 2, 0] rfl (ih v6 h)
        clear eK50
        refine rv_icmp_ne 50 dX10_isOpen_35 (by decide) (fun c7 => ?_) (fun c7 => ?_)
        · replace h := rIfF h c7
          exact rv_sub [0, 1, 2] rfl (hK50 h)
        · replace h := rIfT h c7
          refine rv_aload_n 0 dX10_isOpen_38 rfl ?_
          refine rv_getR ff_X10_31 dX10_isOpen_39 h (fun a8 h => ?_)
          refine rv_iload_n 2 dX10_isOpen_42 rfl ?_
          refine rv_iaload dX10_isOpen_43 h (fun v9 h => ?_)
          refine rv_iconst (v := 1) dX10_isOpen_44 (by decide) ?_
          refine rv_icmp_ne 50 dX10_isOpen_45 (by decide) (fun c10 => ?_) (fun c10 => ?_)
          · replace h := rIfF h c10
            exact rv_sub [0, 1, 2] rfl (hK50 h)
          · replace h := rIfT h c10
            refine rv_iconst (v := 0) dX10_isOpen_48 (by decide) ?_
            exact rv_iret .boolean dX10_isOpen_49 rfl (by decide) (rRetZp (x := 0) h rfl)
      clear eK33
      refine rv_icmp_ne 33 dX10_isOpen_21 (by decide) (fun c11 => ?_) (fun c11 => ?_)
      · replace h := rIfF h c11
        exact rv_sub [1, 2, 3, 0] rfl (hK33 h)
      · replace h := rIfT h c11
        refine rv_aload_n 1 dX10_isOpen_24 rfl ?_
        refine rv_getR ff_X10_31 dX10_isOpen_25 h (fun a12 h => ?_)
        refine rv_iload_n 3 dX10_isOpen_28 rfl ?_
        refine rv_iaload dX10_isOpen_29 h (fun v13 h => ?_)
        refine rv_if_eq 48 dX10_isOpen_30 (by decide) (fun c14 => ?_) (fun c14 => ?_)
        · replace h := rIfT h c14
          refine rv_iconst (v := 0) dX10_isOpen_48 (by decide) ?_
          exact rv_iret .boolean dX10_isOpen_49 rfl (by decide) (rRetZp (x := 0) h rfl)
        · replace h := rIfF h c14
          exact rv_sub [1, 2, 3, 0] rfl (hK33 h)
set_option maxRecDepth 20000 in
theorem E_X10_isOpen {x0 : Nat} {x1 : Int32} {r0 : Bool} {w : rW} (h : J_X10_isOpen x0 x1 w = some r0) : (∃ fs, w[x0]? = some (cO 10 fs)) ∧ rMet mX10_isOpen 0 0 0 [.ref x0, .int x1] w (rIs (some (.int (bi r0))) w) := by
  unfold J_X10_isOpen at h
  obtain ⟨hrc, h⟩ := rRc_some h
  refine ⟨hrc, ?_⟩
  refine rMet_of (by decide) rfl ?_
  refine rv_iconst (v := 0) dX10_isOpen_0 (by decide) ?_
  refine rv_istore_n (l2 := [(2, .int 0), (0, .ref x0), (1, .int x1)]) dX10_isOpen_1 rfl rfl ?_
  exact rv_sub [1, 2, 0] rfl (E_X10_isOpen_2 x0 x1 w 2000 0 h)
set_option maxRecDepth 20000 in
theorem E_X10_opens_160 {w0 : rW} (fr : Nat) {rec : Nat → Int32 → Int32 → Int32 → rW → Option rW} (hrec : ∀ (a0 : Nat) (a1 : Int32) (a2 : Int32) (a3 : Int32) (w1 w2 : rW), rec a0 a1 a2 a3 w1 = some w2 → (∃ fs, w1[a0]? = some (cO 10 fs)) ∧ rMet mX10_opens (3 + fr) 0 0 [.ref a0, .int a1, .int a2, .int a3] w1 (rIs none w2))  (x0 : Nat) (x1 : Int32) (x2 : Int32) (x3 : Int32)   : ∀ (f : Nat) (x6 : Int32) (w : rW), J_X10_opens_160 rec x0 x1 x2 x3 f x6 w = some w0 → rEv mX10_opens (3 + (fr + 1)) 0 0 160 [(0, .ref x0), (1, .int x1), (2, .int x2), (3, .int x3), (6, .int x6)] [] w (rIs none w0) := by
  intro f
  induction f with
  | zero =>
    intro x6 w h
    exact absurd (show (none : Option rW) = some w0 from h) (by simp)
  | succ f ih =>
    intro x6 w h
    rw [J_X10_opens_160] at h
    refine rv_iload 4 dX10_opens_160 rfl ?_
    refine rv_aload_n 0 dX10_opens_162 rfl ?_
    refine rv_getI ff_X10_9 dX10_opens_163 h (fun v8 h => ?_)
    refine rv_icmp_gt 204 dX10_opens_166 (by decide) (fun c9 => ?_) (fun c9 => ?_)
    · replace h := rIfT h c9
      exact rv_vret dX10_opens_204 rfl (rRetV h)
    · replace h := rIfF h c9
      refine rv_iload_n 3 dX10_opens_169 rfl ?_
      refine rv_iload 4 dX10_opens_170 rfl ?_
      refine rv_ishr dX10_opens_172 ?_
      refine rv_iconst (v := 1) dX10_opens_173 (by decide) ?_
      refine rv_iand dX10_opens_174 ?_
      obtain ⟨K198, eK198, h⟩ := rLetE h
      have hK198 : ∀ (w : rW), K198 w = some w0 → rEv mX10_opens (3 + (fr + 1)) 0 0 198 [(0, .ref x0), (1, .int x1), (2, .int x2), (3, .int x3), (6, .int x6)] [] w (rIs none w0) := by
        intro w10 h
        rw [eK198] at h
        obtain ⟨v11, ev11, h⟩ := rLetE h
        refine rv_iinc (v := v11) (l2 := [(6, .int v11), (0, .ref x0), (1, .int x1), (2, .int x2), (3, .int x3)]) 4 dX10_opens_198 rfl (by rw [ev11]; rfl) rfl rfl ?_
        clear ev11
        refine rv_goto 160 dX10_opens_201 (by decide) ?_
        exact rv_sub [1, 2, 3, 4, 0] rfl (ih v11 w10 h)
      clear eK198
      refine rv_if_ne 198 dX10_opens_175 (by decide) (fun c12 => ?_) (fun c12 => ?_)
      · replace h := rIfF h c12
        exact rv_sub [0, 1, 2, 3, 4] rfl (hK198 w h)
      · replace h := rIfT h c12
        refine rv_aload_n 0 dX10_opens_178 rfl ?_
        refine rv_iload_n 1 dX10_opens_179 rfl ?_
        refine rv_iconst (v := 1) dX10_opens_180 (by decide) ?_
        refine rv_iadd dX10_opens_181 ?_
        refine rv_bipush (v := 10) dX10_opens_182 (by decide) ?_
        refine rv_iload_n 2 dX10_opens_184 rfl ?_
        refine rv_imul dX10_opens_185 ?_
        refine rv_iload 4 dX10_opens_186 rfl ?_
        refine rv_iadd dX10_opens_188 ?_
        refine rv_iload_n 3 dX10_opens_189 rfl ?_
        refine rv_iconst (v := 1) dX10_opens_190 (by decide) ?_
        refine rv_iload 4 dX10_opens_191 rfl ?_
        refine rv_ishl dX10_opens_193 ?_
        refine rv_ior dX10_opens_194 ?_
        obtain ⟨w14, h13, h⟩ := rBind h
        refine rv_callVv (k3 := 0) (n3 := 0) (st2 := []) caX10_opens cvX10_opens ml_X10_313 dX10_opens_195 (Nat.ble_eq_true_of_le (by omega)) (hrec _ _ _ _ _ _ h13).2 (hrec _ _ _ _ _ _ h13).1 rfl rfl rfl rfl rfl ?_
        clear h13
        exact rv_sub [0, 1, 2, 3, 4] rfl (hK198 w14 h)

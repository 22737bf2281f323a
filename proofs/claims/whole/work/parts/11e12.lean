set_option maxRecDepth 20000 in
theorem E_X10_tape_72 {r0 : Int32} {w0 : rW}  (x0 : Nat) (x1 : Int32)   : ∀ (f : Nat) (x4 : Int32) (w : rW), J_X10_tape_72 x0 x1 f x4 w = some (r0, w0) → rEv mX10_tape 2 0 0 72 [(0, .ref x0), (1, .int x1), (4, .int x4)] [] w (rIs (some (.int r0)) w0) := by
  intro f
  induction f with
  | zero =>
    intro x4 w h
    exact absurd (show (none : Option (Int32 × rW)) = some (r0, w0) from h) (by simp)
  | succ f ih =>
    intro x4 w h
    rw [J_X10_tape_72] at h
    refine rv_iload 2 dX10_tape_72 rfl ?_
    refine rv_bipush (v := 60) dX10_tape_74 (by decide) ?_
    refine rv_icmp_ge 98 dX10_tape_76 (by decide) (fun c14 => ?_) (fun c14 => ?_)
    · replace h := rIfT h c14
      refine rv_iconst (v := 1) dX10_tape_98 (by decide) ?_
      exact rv_iret .int dX10_tape_99 rfl rfl (rRetIw h)
    · replace h := rIfF h c14
      refine rv_aload_n 0 dX10_tape_79 rfl ?_
      refine rv_getR ff_X10_64 dX10_tape_80 h (fun a15 h => ?_)
      refine rv_bipush (v := 60) dX10_tape_83 (by decide) ?_
      refine rv_iload_n 1 dX10_tape_85 rfl ?_
      refine rv_imul dX10_tape_86 ?_
      refine rv_iload 2 dX10_tape_87 rfl ?_
      refine rv_iadd dX10_tape_89 ?_
      refine rv_lconst (v := 0) dX10_tape_90 (by decide) ?_
      refine rv_lastore dX10_tape_91 h (fun w16 h => ?_)
      obtain ⟨v17, ev17, h⟩ := rLetE h
      refine rv_iinc (v := v17) (l2 := [(4, .int v17), (0, .ref x0), (1, .int x1)]) 2 dX10_tape_92 rfl (by rw [ev17]; rfl) rfl rfl ?_
      clear ev17
      refine rv_goto 72 dX10_tape_95 (by decide) ?_
      exact rv_sub [1, 2, 0] rfl (ih v17 w16 h)
set_option maxRecDepth 20000 in
theorem E_X10_tape {x0 : Nat} {x1 : Int32} {x2 : Int32} {x3 : Int32} {r0 : Int32} {w0 : rW} {w : rW} (h : J_X10_tape x0 x1 x2 x3 w = some (r0, w0)) : (∃ fs, w[x0]? = some (cO 10 fs)) ∧ rMet mX10_tape 2 0 0 [.ref x0, .int x1, .int x2, .int x3] w (rIs (some (.int r0)) w0) := by
  unfold J_X10_tape at h
  obtain ⟨hrc, h⟩ := rRc_some h
  refine ⟨hrc, ?_⟩
  refine rMet_of (by decide) rfl ?_
  refine rv_iload_n 1 dX10_tape_0 rfl ?_
  obtain ⟨b2, h1, h⟩ := rBind h
  refine rv_callSr (k3 := 0) (n3 := 0) (st2 := []) (As := [.int x1]) caX10_isTape csX10_isTape ml_X10_372 dX10_tape_1 rfl (E_X10_isTape h1) rfl rfl rfl rfl rfl ?_
  clear h1
  refine rv_if_ne 9 dX10_tape_4 (by decide) (fun c3 => ?_) (fun c3 => ?_)
  · replace h := rIfF h c3
    refine rv_iload_n 2 dX10_tape_9 rfl ?_
    refine rv_i2l dX10_tape_10 ?_
    refine rv_ldc2 dX10_tape_11 kl_X10_173 ?_
    refine rv_ldc2 dX10_tape_14 kl_X10_120 ?_
    obtain ⟨b5, h4, h⟩ := rBind h
    refine rv_callSr (k3 := 0) (n3 := 0) (st2 := []) (As := [.long (Int32.toInt64 x2), .long (-1), .long 4]) caX10_in csX10_in ml_X10_116 dX10_tape_17 rfl (E_X10_in h4) rfl rfl rfl rfl rfl ?_
    clear h4
    refine rv_if_eq 33 dX10_tape_20 (by decide) (fun c6 => ?_) (fun c6 => ?_)
    · replace h := rIfT h c6
      refine rv_bipush (v := (-2)) dX10_tape_33 (by decide) ?_
      exact rv_iret .int dX10_tape_35 rfl rfl (rRetIw h)
    · replace h := rIfF h c6
      refine rv_iload_n 2 dX10_tape_23 rfl ?_
      obtain ⟨K36, eK36, h⟩ := rLetE h
      have hK36 : K36 = some (r0, w0) → rEv mX10_tape 2 0 0 36 [(0, .ref x0), (1, .int x1), (2, .int x2), (3, .int x3)] [] w (rIs (some (.int r0)) w0) := by
        intro h
        rw [eK36] at h
        refine rv_iload_n 2 dX10_tape_36 rfl ?_
        obtain ⟨K47, eK47, h⟩ := rLetE h
        have hK47 : K47 = some (r0, w0) → rEv mX10_tape 2 0 0 47 [(0, .ref x0), (1, .int x1), (2, .int x2), (3, .int x3)] [] w (rIs (some (.int r0)) w0) := by
          intro h
          rw [eK47] at h
          refine rv_aload_n 0 dX10_tape_47 rfl ?_
          refine rv_getR ff_X10_68 dX10_tape_48 h (fun a7 h => ?_)
          refine rv_iload_n 1 dX10_tape_51 rfl ?_
          refine rv_iload_n 2 dX10_tape_52 rfl ?_
          refine rv_iastore dX10_tape_53 h (fun w8 h => ?_)
          refine rv_aload_n 0 dX10_tape_54 rfl ?_
          refine rv_getR ff_X10_71 dX10_tape_55 h (fun a9 h => ?_)
          refine rv_iload_n 1 dX10_tape_58 rfl ?_
          refine rv_iload_n 2 dX10_tape_59 rfl ?_
          obtain ⟨K68, eK68, h⟩ := rLetE h
          have hK68 : ∀ (z0 : Nat) (z1 : Int32) (z2 : Int32), K68 z0 z1 z2 = some (r0, w0) → rEv mX10_tape 2 0 0 68 [(0, .ref x0), (1, .int x1)] [.int z2, .int z1, .ref z0] w8 (rIs (some (.int r0)) w0) := by
            intro z10 z11 z12 h
            rw [eK68] at h
            refine rv_iastore dX10_tape_68 h (fun w13 h => ?_)
            refine rv_iconst (v := 0) dX10_tape_69 (by decide) ?_
            refine rv_istore (l2 := [(4, .int 0), (0, .ref x0), (1, .int x1)]) dX10_tape_70 rfl rfl ?_
            exact rv_sub [1, 2, 0] rfl (E_X10_tape_72 x0 x1 2000 0 w13 h)
          clear eK68
          refine rv_if_ge 67 dX10_tape_60 (by decide) (fun c18 => ?_) (fun c18 => ?_)
          · replace h := rIfT h c18
            refine rv_iload_n 3 dX10_tape_67 rfl ?_
            exact rv_sub [0, 1] rfl (hK68 a9 x1 x3 h)
          · replace h := rIfF h c18
            refine rv_iconst (v := 0) dX10_tape_63 (by decide) ?_
            refine rv_goto 68 dX10_tape_64 (by decide) ?_
            exact rv_sub [0, 1] rfl (hK68 a9 x1 0 h)
        clear eK47
        refine rv_if_lt 47 dX10_tape_37 (by decide) (fun c19 => ?_) (fun c19 => ?_)
        · replace h := rIfT h c19
          exact rv_sub [0, 1, 2, 3] rfl (hK47 h)
        · replace h := rIfF h c19
          refine rv_iload_n 3 dX10_tape_40 rfl ?_
          refine rv_if_ge 47 dX10_tape_41 (by decide) (fun c20 => ?_) (fun c20 => ?_)
          · replace h := rIfT h c20
            exact rv_sub [0, 1, 2, 3] rfl (hK47 h)
          · replace h := rIfF h c20
            refine rv_bipush (v := (-14)) dX10_tape_44 (by decide) ?_
            exact rv_iret .int dX10_tape_46 rfl rfl (rRetIw h)
      clear eK36
      refine rv_if_lt 36 dX10_tape_24 (by decide) (fun c21 => ?_) (fun c21 => ?_)
      · replace h := rIfT h c21
        exact rv_sub [0, 1, 2, 3] rfl (hK36 h)
      · replace h := rIfF h c21
        refine rv_iload_n 3 dX10_tape_27 rfl ?_
        refine rv_bipush (v := 60) dX10_tape_28 (by decide) ?_
        refine rv_icmp_le 36 dX10_tape_30 (by decide) (fun c22 => ?_) (fun c22 => ?_)
        · replace h := rIfT h c22
          exact rv_sub [0, 1, 2, 3] rfl (hK36 h)
        · replace h := rIfF h c22
          refine rv_bipush (v := (-2)) dX10_tape_33 (by decide) ?_
          exact rv_iret .int dX10_tape_35 rfl rfl (rRetIw h)
  · replace h := rIfT h c3
    refine rv_iconst (v := (-1)) dX10_tape_7 (by decide) ?_
    exact rv_iret .int dX10_tape_8 rfl rfl (rRetIw h)
set_option maxRecDepth 20000 in
theorem E_X10_hasItem {x0 : Nat} {x1 : Int32} {x2 : Int32} {r0 : Bool} {w : rW} (h : J_X10_hasItem x0 x1 x2 w = some r0) : (∃ fs, w[x0]? = some (cO 10 fs)) ∧ rMet mX10_hasItem 1 0 0 [.ref x0, .int x1, .int x2] w (rIs (some (.int (bi r0))) w) := by
  unfold J_X10_hasItem at h
  obtain ⟨hrc, h⟩ := rRc_some h
  refine ⟨hrc, ?_⟩
  refine rMet_of (by decide) rfl ?_
  refine rv_iload_n 2 dX10_hasItem_0 rfl ?_
  refine rv_i2l dX10_hasItem_1 ?_
  refine rv_lconst (v := 0) dX10_hasItem_2 (by decide) ?_
  refine rv_aload_n 0 dX10_hasItem_3 rfl ?_
  refine rv_getR ff_X10_71 dX10_hasItem_4 h (fun a1 h => ?_)
  refine rv_iload_n 1 dX10_hasItem_7 rfl ?_
  refine rv_iaload dX10_hasItem_8 h (fun v2 h => ?_)
  refine rv_iconst (v := 1) dX10_hasItem_9 (by decide) ?_
  refine rv_isub dX10_hasItem_10 ?_
  refine rv_i2l dX10_hasItem_11 ?_
  obtain ⟨b4, h3, h⟩ := rBind h
  refine rv_callSr (k3 := 0) (n3 := 0) (st2 := []) (As := [.long (Int32.toInt64 x2), .long 0, .long (Int32.toInt64 (v2 - 1))]) caX10_in csX10_in ml_X10_116 dX10_hasItem_12 rfl (E_X10_in h3) rfl rfl rfl rfl rfl ?_
  clear h3
  exact rv_iret .boolean dX10_hasItem_15 rfl (nbi _) (rRetZp h rfl)
set_option maxRecDepth 20000 in
theorem E_X10_item {x0 : Nat} {x1 : Int32} {x2 : Int32} {x3 : Int64} {r0 : Int32} {w0 : rW} {w : rW} (h : J_X10_item x0 x1 x2 x3 w = some (r0, w0)) : (∃ fs, w[x0]? = some (cO 10 fs)) ∧ rMet mX10_item 2 0 0 [.ref x0, .int x1, .int x2, .long x3] w (rIs (some (.int r0)) w0) := by
  unfold J_X10_item at h
  obtain ⟨hrc, h⟩ := rRc_some h
  refine ⟨hrc, ?_⟩
  refine rMet_of (by decide) rfl ?_
  refine rv_iload_n 1 dX10_item_0 rfl ?_
  obtain ⟨b2, h1, h⟩ := rBind h
  refine rv_callSr (k3 := 0) (n3 := 0) (st2 := []) (As := [.int x1]) caX10_isTape csX10_isTape ml_X10_372 dX10_item_1 rfl (E_X10_isTape h1) rfl rfl rfl rfl rfl ?_
  clear h1
  refine rv_if_ne 9 dX10_item_4 (by decide) (fun c3 => ?_) (fun c3 => ?_)
  · replace h := rIfF h c3
    refine rv_aload_n 0 dX10_item_9 rfl ?_
    refine rv_getR ff_X10_68 dX10_item_10 h (fun a4 h => ?_)
    refine rv_iload_n 1 dX10_item_13 rfl ?_
    refine rv_iaload dX10_item_14 h (fun v5 h => ?_)
    refine rv_if_ge 21 dX10_item_15 (by decide) (fun c6 => ?_) (fun c6 => ?_)
    · replace h := rIfT h c6
      refine rv_aload_n 0 dX10_item_21 rfl ?_
      refine rv_iload_n 1 dX10_item_22 rfl ?_
      refine rv_iload_n 2 dX10_item_23 rfl ?_
      obtain ⟨b8, h7, h⟩ := rBind h
      refine rv_callVr (k3 := 0) (n3 := 0) (st2 := []) caX10_hasItem cvX10_hasItem ml_X10_375 dX10_item_24 rfl (E_X10_hasItem h7).2 (E_X10_hasItem h7).1 rfl rfl rfl rfl rfl ?_
      clear h7
      refine rv_if_ne 33 dX10_item_27 (by decide) (fun c9 => ?_) (fun c9 => ?_)
      · replace h := rIfF h c9
        refine rv_lload_n 3 dX10_item_33 rfl ?_
        refine rv_lstore (l2 := [(5, .long x3), (0, .ref x0), (1, .int x1), (2, .int x2), (3, .long x3)]) dX10_item_34 rfl rfl ?_
        refine rv_aload_n 1 dX10_item_36 rfl ?_
        refine rv_getR ff_X10_68 dX10_item_37 h (fun a10 h => ?_)
        refine rv_iload_n 2 dX10_item_40 rfl ?_
        refine rv_iaload dX10_item_41 h (fun v11 h => ?_)
        obtain ⟨K118, eK118, h⟩ := rLetE h
        have hK118 : ∀ (y5 : Int64), K118 y5 = some (r0, w0) → rEv mX10_item 2 0 0 118 [(0, .ref x0), (1, .int x1), (2, .int x2), (5, .long y5)] [] w (rIs (some (.int r0)) w0) := by
          intro x5_12 h
          rw [eK118] at h
          refine rv_aload_n 0 dX10_item_118 rfl ?_
          refine rv_getR ff_X10_64 dX10_item_119 h (fun a13 h => ?_)
          refine rv_bipush (v := 60) dX10_item_122 (by decide) ?_
          refine rv_iload_n 1 dX10_item_124 rfl ?_
          refine rv_imul dX10_item_125 ?_
          refine rv_iload_n 2 dX10_item_126 rfl ?_
          refine rv_iadd dX10_item_127 ?_
          refine rv_lload 3 dX10_item_128 rfl ?_
          refine rv_lastore dX10_item_130 h (fun w14 h => ?_)
          refine rv_iconst (v := 1) dX10_item_131 (by decide) ?_
          exact rv_iret .int dX10_item_132 rfl rfl (rRetIw h)
        clear eK118
        refine rIf h (fun c15 h => ?_) (fun c15 h => ?_)
        · refine rv_tswIn 76 dX10_item_42 c15 (by decide) (by decide) rfl (by decide) ?_
          refine rv_lload_n 4 dX10_item_76 rfl ?_
          refine rv_l2i dX10_item_77 ?_
          refine rv_i2b dX10_item_78 ?_
          refine rv_i2l dX10_item_79 ?_
          refine rv_letJ h (fun v16 h => ?_)
          refine rv_lstore (l2 := [(5, .long v16), (0, .ref x0), (1, .int x1), (2, .int x2), (3, .long x3)]) dX10_item_80 rfl rfl ?_
          refine rv_goto 118 dX10_item_82 (by decide) ?_
          exact rv_sub [1, 2, 3, 0] rfl (hK118 v16 h)
        refine rIf h (fun c17 h => ?_) (fun c17 h => ?_)
        · refine rv_tswIn 85 dX10_item_42 c17 (by decide) (by decide) rfl (by decide) ?_
          refine rv_lload_n 4 dX10_item_85 rfl ?_
          refine rv_l2i dX10_item_86 ?_
          refine rv_i2s dX10_item_87 ?_
          refine rv_i2l dX10_item_88 ?_
          refine rv_letJ h (fun v18 h => ?_)
          refine rv_lstore (l2 := [(5, .long v18), (0, .ref x0), (1, .int x1), (2, .int x2), (3, .long x3)]) dX10_item_89 rfl rfl ?_
          refine rv_goto 118 dX10_item_91 (by decide) ?_
          exact rv_sub [1, 2, 3, 0] rfl (hK118 v18 h)
        refine rIf h (fun c19 h => ?_) (fun c19 h => ?_)
        · refine rv_tswIn 94 dX10_item_42 c19 (by decide) (by decide) rfl (by decide) ?_
          refine rv_lload_n 4 dX10_item_94 rfl ?_
          refine rv_l2i dX10_item_95 ?_
          refine rv_i2l dX10_item_96 ?_
          refine rv_letJ h (fun v20 h => ?_)
          refine rv_lstore (l2 := [(5, .long v20), (0, .ref x0), (1, .int x1), (2, .int x2), (3, .long x3)]) dX10_item_97 rfl rfl ?_
          refine rv_goto 118 dX10_item_99 (by decide) ?_
          exact rv_sub [1, 2, 3, 0] rfl (hK118 v20 h)
        refine rIf h (fun c21 h => ?_) (fun c21 h => ?_)
        · refine rv_tswIn 102 dX10_item_42 c21 (by decide) (by decide) rfl (by decide) ?_
          refine rv_lload_n 4 dX10_item_102 rfl ?_
          refine rv_lconst (v := 0) dX10_item_103 (by decide) ?_
          refine rv_lcmp dX10_item_104 ?_
          obtain ⟨K113, eK113, h⟩ := rLetE h
          have hK113 : ∀ (z0 : Int64), K113 z0 = some (r0, w0) → rEv mX10_item 2 0 0 113 [(0, .ref x0), (1, .int x1), (2, .int x2)] [.long z0] w (rIs (some (.int r0)) w0) := by
            intro z22 h
            rw [eK113] at h
            refine rv_lstore (l2 := [(5, .long z22), (0, .ref x0), (1, .int x1), (2, .int x2)]) dX10_item_113 rfl rfl ?_
            refine rv_goto 118 dX10_item_115 (by decide) ?_
            exact rv_sub [1, 2, 3, 0] rfl (hK118 z22 h)
          clear eK113
          refine rv_if_eq 112 dX10_item_105 (by decide) (fun c23 => ?_) (fun c23 => ?_)
          · replace h := rIfT h c23
            refine rv_lconst (v := 0) dX10_item_112 (by decide) ?_
            exact rv_sub [1, 2, 3] rfl (hK113 0 h)
          · replace h := rIfF h c23
            refine rv_lconst (v := 1) dX10_item_108 (by decide) ?_
            refine rv_goto 113 dX10_item_109 (by decide) ?_
            exact rv_sub [1, 2, 3] rfl (hK113 1 h)
        refine rv_tswOut 118 [0, 1, 2, 4] dX10_item_42 (by decide) (by decide) (by decide) (fun v hv => ?_) ?_
        · simp only [List.mem_cons, List.not_mem_nil, or_false] at hv
          rcases hv with rfl | rfl | rfl | rfl
          · exact c15
          · exact c17
          · exact c19
          · exact c21
        exact rv_sub [1, 2, 3, 0] rfl (hK118 x3 h)
      · replace h := rIfT h c9
        refine rv_bipush (v := (-13)) dX10_item_30 (by decide) ?_
        exact rv_iret .int dX10_item_32 rfl rfl (rRetIw h)
    · replace h := rIfF h c6
      refine rv_bipush (v := (-11)) dX10_item_18 (by decide) ?_
      exact rv_iret .int dX10_item_20 rfl rfl (rRetIw h)
  · replace h := rIfT h c3
    refine rv_iconst (v := (-1)) dX10_item_7 (by decide) ?_
    exact rv_iret .int dX10_item_8 rfl rfl (rRetIw h)
set_option maxRecDepth 20000 in
theorem E_X10_peek {x0 : Nat} {x1 : Int32} {x2 : Int32} {r0 : Int64} {w : rW} (h : J_X10_peek x0 x1 x2 w = some r0) : (∃ fs, w[x0]? = some (cO 10 fs)) ∧ rMet mX10_peek 2 0 0 [.ref x0, .int x1, .int x2] w (rIs (some (.long r0)) w) := by
  unfold J_X10_peek at h
  obtain ⟨hrc, h⟩ := rRc_some h
  refine ⟨hrc, ?_⟩
  refine rMet_of (by decide) rfl ?_
  refine rv_iload_n 1 dX10_peek_0 rfl ?_
  obtain ⟨b2, h1, h⟩ := rBind h
  refine rv_callSr (k3 := 0) (n3 := 0) (st2 := []) (As := [.int x1]) caX10_isTape csX10_isTape ml_X10_372 dX10_peek_1 rfl (E_X10_isTape h1) rfl rfl rfl rfl rfl ?_
  clear h1
  obtain ⟨K39, eK39, h⟩ := rLetE h
  have hK39 : K39 = some r0 → rEv mX10_peek 2 0 0 39 [] [] w (rIs (some (.long r0)) w) := by
    intro h
    rw [eK39] at h
    refine rv_ldc2 dX10_peek_39 kl_X10_343 ?_
    exact rv_lret dX10_peek_42 rfl (rRetJp h)
  clear eK39
  refine rv_if_eq 39 dX10_peek_4 (by decide) (fun c3 => ?_) (fun c3 => ?_)
  · replace h := rIfT h c3
    exact rv_sub [] rfl (hK39 h)
  · replace h := rIfF h c3
    refine rv_aload_n 0 dX10_peek_7 rfl ?_
    refine rv_getR ff_X10_68 dX10_peek_8 h (fun a4 h => ?_)
    refine rv_iload_n 1 dX10_peek_11 rfl ?_
    refine rv_iaload dX10_peek_12 h (fun v5 h => ?_)
    refine rv_if_lt 39 dX10_peek_13 (by decide) (fun c6 => ?_) (fun c6 => ?_)
    · replace h := rIfT h c6
      exact rv_sub [] rfl (hK39 h)
    · replace h := rIfF h c6
      refine rv_aload_n 0 dX10_peek_16 rfl ?_
      refine rv_iload_n 1 dX10_peek_17 rfl ?_
      refine rv_iload_n 2 dX10_peek_18 rfl ?_
      obtain ⟨b8, h7, h⟩ := rBind h
      refine rv_callVr (k3 := 0) (n3 := 0) (st2 := []) caX10_hasItem cvX10_hasItem ml_X10_375 dX10_peek_19 rfl (E_X10_hasItem h7).2 (E_X10_hasItem h7).1 rfl rfl rfl rfl rfl ?_
      clear h7
      refine rv_if_eq 39 dX10_peek_22 (by decide) (fun c9 => ?_) (fun c9 => ?_)
      · replace h := rIfT h c9
        exact rv_sub [] rfl (hK39 h)
      · replace h := rIfF h c9
        refine rv_aload_n 0 dX10_peek_25 rfl ?_
        refine rv_getR ff_X10_64 dX10_peek_26 h (fun a10 h => ?_)
        refine rv_bipush (v := 60) dX10_peek_29 (by decide) ?_
        refine rv_iload_n 1 dX10_peek_31 rfl ?_
        refine rv_imul dX10_peek_32 ?_
        refine rv_iload_n 2 dX10_peek_33 rfl ?_
        refine rv_iadd dX10_peek_34 ?_
        refine rv_laload dX10_peek_35 h (fun v11 h => ?_)
        refine rv_goto 42 dX10_peek_36 (by decide) ?_
        exact rv_lret dX10_peek_42 rfl (rRetJp h)
set_option maxRecDepth 20000 in
theorem E_X10_shift_133 {r0 : Int32} {w0 : rW}  (x0 : Nat) (x1 : Int32) (x2 : Int32) (x3 : Int32) (x4 : Int32) (x5 : Int32) (x6 : Int32)   : ∀ (f : Nat) (x7 : Int32) (w : rW), J_X10_shift_133 x0 x1 x2 x3 x4 x5 x6 f x7 w = some (r0, w0) → rEv mX10_shift 2 0 0 133 [(0, .ref x0), (1, .int x1), (2, .int x2), (3, .int x3), (4, .int x4), (5, .int x5), (6, .int x6), (7, .int x7)] [] w (rIs (some (.int r0)) w0) := by
  intro f
  induction f with
  | zero =>
    intro x7 w h
    exact absurd (show (none : Option (Int32 × rW)) = some (r0, w0) from h) (by simp)
  | succ f ih =>
    intro x7 w h
    rw [J_X10_shift_133] at h
    refine rv_iload 7 dX10_shift_133 rfl ?_
    refine rv_iload 5 dX10_shift_135 rfl ?_
    refine rv_icmp_ge 194 dX10_shift_137 (by decide) (fun c28 => ?_) (fun c28 => ?_)
    · replace h := rIfT h c28
      refine rv_iload 5 dX10_shift_194 rfl ?_
      exact rv_iret .int dX10_shift_196 rfl rfl (rRetIw h)
    · replace h := rIfF h c28
      refine rv_iload 6 dX10_shift_140 rfl ?_
      obtain ⟨K157, eK157, h⟩ := rLetE h
      have hK157 : ∀ (z0 : Int32), K157 z0 = some (r0, w0) → rEv mX10_shift 2 0 0 157 [(0, .ref x0), (1, .int x1), (2, .int x2), (3, .int x3), (4, .int x4), (5, .int x5), (6, .int x6), (7, .int x7)] [.int z0] w (rIs (some (.int r0)) w0) := by
        intro z29 h
        rw [eK157] at h
        refine rv_istore (l2 := [(8, .int z29), (0, .ref x0), (1, .int x1), (2, .int x2), (3, .int x3), (4, .int x4), (5, .int x5), (6, .int x6), (7, .int x7)]) dX10_shift_157 rfl rfl ?_
        refine rv_aload_n 1 dX10_shift_159 rfl ?_
        refine rv_getR ff_X10_64 dX10_shift_160 h (fun a30 h => ?_)
        refine rv_bipush (v := 60) dX10_shift_163 (by decide) ?_
        refine rv_iload_n 4 dX10_shift_165 rfl ?_
        refine rv_imul dX10_shift_166 ?_
        refine rv_iload 5 dX10_shift_167 rfl ?_
        refine rv_iadd dX10_shift_169 ?_
        refine rv_iload 0 dX10_shift_170 rfl ?_
        refine rv_iadd dX10_shift_172 ?_
        refine rv_aload_n 1 dX10_shift_173 rfl ?_
        refine rv_getR ff_X10_64 dX10_shift_174 h (fun a31 h => ?_)
        refine rv_bipush (v := 60) dX10_shift_177 (by decide) ?_
        refine rv_iload_n 2 dX10_shift_179 rfl ?_
        refine rv_imul dX10_shift_180 ?_
        refine rv_iload_n 3 dX10_shift_181 rfl ?_
        refine rv_iadd dX10_shift_182 ?_
        refine rv_iload 0 dX10_shift_183 rfl ?_
        refine rv_iadd dX10_shift_185 ?_
        refine rv_laload dX10_shift_186 h (fun v32 h => ?_)
        refine rv_lastore dX10_shift_187 h (fun w33 h => ?_)
        obtain ⟨v34, ev34, h⟩ := rLetE h
        refine rv_iinc (v := v34) (l2 := [(7, .int v34), (8, .int z29), (0, .ref x0), (1, .int x1), (2, .int x2), (3, .int x3), (4, .int x4), (5, .int x5), (6, .int x6)]) 8 dX10_shift_188 rfl (by rw [ev34]; rfl) rfl rfl ?_
        clear ev34
        refine rv_goto 133 dX10_shift_191 (by decide) ?_
        exact rv_sub [2, 3, 4, 5, 6, 7, 8, 0] rfl (ih v34 w33 h)
      clear eK157
      refine rv_if_eq 150 dX10_shift_142 (by decide) (fun c35 => ?_) (fun c35 => ?_)
      · replace h := rIfT h c35
        refine rv_iload 5 dX10_shift_150 rfl ?_
        refine rv_iconst (v := 1) dX10_shift_152 (by decide) ?_
        refine rv_isub dX10_shift_153 ?_
        refine rv_iload 7 dX10_shift_154 rfl ?_
        refine rv_isub dX10_shift_156 ?_
        exact rv_sub [0, 1, 2, 3, 4, 5, 6, 7] rfl (hK157 ((x5 - 1) - x7) h)
      · replace h := rIfF h c35
        refine rv_iload 7 dX10_shift_145 rfl ?_
        refine rv_goto 157 dX10_shift_147 (by decide) ?_
        exact rv_sub [0, 1, 2, 3, 4, 5, 6, 7] rfl (hK157 x7 h)
set_option maxRecDepth 20000 in
theorem E_X10_shift {x0 : Nat} {x1 : Int32} {x2 : Int32} {x3 : Int32} {x4 : Int32} {x5 : Int32} {r0 : Int32} {w0 : rW} {w : rW} (h : J_X10_shift x0 x1 x2 x3 x4 x5 w = some (r0, w0)) : (∃ fs, w[x0]? = some (cO 10 fs)) ∧ rMet mX10_shift 2 0 0 [.ref x0, .int x1, .int x2, .int x3, .int x4, .int x5] w (rIs (some (.int r0)) w0) := by
  unfold J_X10_shift at h
  obtain ⟨hrc, h⟩ := rRc_some h
  refine ⟨hrc, ?_⟩
  refine rMet_of (by decide) rfl ?_
  refine rv_iload_n 1 dX10_shift_0 rfl ?_
  obtain ⟨b2, h1, h⟩ := rBind h
  refine rv_callSr (k3 := 0) (n3 := 0) (st2 := []) (As := [.int x1]) caX10_isTape csX10_isTape ml_X10_372 dX10_shift_1 rfl (E_X10_isTape h1) rfl rfl rfl rfl rfl ?_
  clear h1
  refine rv_if_eq 14 dX10_shift_4 (by decide) (fun c3 => ?_) (fun c3 => ?_)
  · replace h := rIfT h c3
    refine rv_iconst (v := (-1)) dX10_shift_14 (by decide) ?_
    exact rv_iret .int dX10_shift_15 rfl rfl (rRetIw h)
  · replace h := rIfF h c3
    refine rv_iload_n 3 dX10_shift_7 rfl ?_
    obtain ⟨b5, h4, h⟩ := rBind h
    refine rv_callSr (k3 := 0) (n3 := 0) (st2 := []) (As := [.int x3]) caX10_isTape csX10_isTape ml_X10_372 dX10_shift_8 rfl (E_X10_isTape h4) rfl rfl rfl rfl rfl ?_
    clear h4
    refine rv_if_ne 16 dX10_shift_11 (by decide) (fun c6 => ?_) (fun c6 => ?_)
    · replace h := rIfF h c6
      refine rv_aload_n 0 dX10_shift_16 rfl ?_
      refine rv_getR ff_X10_68 dX10_shift_17 h (fun a7 h => ?_)
      refine rv_iload_n 1 dX10_shift_20 rfl ?_
      refine rv_iaload dX10_shift_21 h (fun v8 h => ?_)
      refine rv_if_lt 34 dX10_shift_22 (by decide) (fun c9 => ?_) (fun c9 => ?_)
      · replace h := rIfT h c9
        refine rv_bipush (v := (-11)) dX10_shift_34 (by decide) ?_
        exact rv_iret .int dX10_shift_36 rfl rfl (rRetIw h)
      · replace h := rIfF h c9
        refine rv_aload_n 0 dX10_shift_25 rfl ?_
        refine rv_getR ff_X10_68 dX10_shift_26 h (fun a10 h => ?_)
        refine rv_iload_n 3 dX10_shift_29 rfl ?_
        refine rv_iaload dX10_shift_30 h (fun v11 h => ?_)
        refine rv_if_ge 37 dX10_shift_31 (by decide) (fun c12 => ?_) (fun c12 => ?_)
        · replace h := rIfT h c12
          refine rv_aload_n 0 dX10_shift_37 rfl ?_
          refine rv_getR ff_X10_68 dX10_shift_38 h (fun a13 h => ?_)
          refine rv_iload_n 1 dX10_shift_41 rfl ?_
          refine rv_iaload dX10_shift_42 h (fun v14 h => ?_)
          refine rv_aload_n 0 dX10_shift_43 rfl ?_
          refine rv_getR ff_X10_68 dX10_shift_44 h (fun a15 h => ?_)
          refine rv_iload_n 3 dX10_shift_47 rfl ?_
          refine rv_iaload dX10_shift_48 h (fun v16 h => ?_)
          refine rv_icmp_eq 55 dX10_shift_49 (by decide) (fun c17 => ?_) (fun c17 => ?_)
          · replace h := rIfT h c17
            refine rv_iload 5 dX10_shift_55 rfl ?_
            refine rv_if_lt 104 dX10_shift_57 (by decide) (fun c18 => ?_) (fun c18 => ?_)
            · replace h := rIfT h c18
              refine rv_bipush (v := (-13)) dX10_shift_104 (by decide) ?_
              exact rv_iret .int dX10_shift_106 rfl rfl (rRetIw h)
            · replace h := rIfF h c18
              refine rv_iload_n 2 dX10_shift_60 rfl ?_
              refine rv_if_lt 104 dX10_shift_61 (by decide) (fun c19 => ?_) (fun c19 => ?_)
              · replace h := rIfT h c19
                refine rv_bipush (v := (-13)) dX10_shift_104 (by decide) ?_
                exact rv_iret .int dX10_shift_106 rfl rfl (rRetIw h)
              · replace h := rIfF h c19
                refine rv_iload 4 dX10_shift_64 rfl ?_
                refine rv_if_lt 104 dX10_shift_66 (by decide) (fun c20 => ?_) (fun c20 => ?_)
                · replace h := rIfT h c20
                  refine rv_bipush (v := (-13)) dX10_shift_104 (by decide) ?_
                  exact rv_iret .int dX10_shift_106 rfl rfl (rRetIw h)
                · replace h := rIfF h c20
                  refine rv_iload_n 2 dX10_shift_69 rfl ?_
                  refine rv_i2l dX10_shift_70 ?_
                  refine rv_iload 5 dX10_shift_71 rfl ?_
                  refine rv_i2l dX10_shift_73 ?_
                  refine rv_ladd dX10_shift_74 ?_
                  refine rv_aload_n 0 dX10_shift_75 rfl ?_
                  refine rv_getR ff_X10_71 dX10_shift_76 h (fun a21 h => ?_)
                  refine rv_iload_n 1 dX10_shift_79 rfl ?_
                  refine rv_iaload dX10_shift_80 h (fun v22 h => ?_)
                  refine rv_i2l dX10_shift_81 ?_
                  refine rv_lcmp dX10_shift_82 ?_
                  refine rv_if_gt 104 dX10_shift_83 (by decide) (fun c23 => ?_) (fun c23 => ?_)
                  · replace h := rIfT h c23
                    refine rv_bipush (v := (-13)) dX10_shift_104 (by decide) ?_
                    exact rv_iret .int dX10_shift_106 rfl rfl (rRetIw h)
                  · replace h := rIfF h c23
                    refine rv_iload 4 dX10_shift_86 rfl ?_
                    refine rv_i2l dX10_shift_88 ?_
                    refine rv_iload 5 dX10_shift_89 rfl ?_
                    refine rv_i2l dX10_shift_91 ?_
                    refine rv_ladd dX10_shift_92 ?_
                    refine rv_aload_n 0 dX10_shift_93 rfl ?_
                    refine rv_getR ff_X10_71 dX10_shift_94 h (fun a24 h => ?_)
                    refine rv_iload_n 3 dX10_shift_97 rfl ?_
                    refine rv_iaload dX10_shift_98 h (fun v25 h => ?_)
                    refine rv_i2l dX10_shift_99 ?_
                    refine rv_lcmp dX10_shift_100 ?_
                    refine rv_if_le 107 dX10_shift_101 (by decide) (fun c26 => ?_) (fun c26 => ?_)
                    · replace h := rIfT h c26
                      refine rv_bipush (v := 60) dX10_shift_107 (by decide) ?_
                      refine rv_iload_n 1 dX10_shift_109 rfl ?_
                      refine rv_imul dX10_shift_110 ?_
                      refine rv_iload_n 2 dX10_shift_111 rfl ?_
                      refine rv_iadd dX10_shift_112 ?_
                      refine rv_bipush (v := 60) dX10_shift_113 (by decide) ?_
                      refine rv_iload_n 3 dX10_shift_115 rfl ?_
                      refine rv_imul dX10_shift_116 ?_
                      refine rv_iload 4 dX10_shift_117 rfl ?_
                      refine rv_iadd dX10_shift_119 ?_
                      obtain ⟨K128, eK128, h⟩ := rLetE h
                      have hK128 : ∀ (z0 : Int32), K128 z0 = some (r0, w0) → rEv mX10_shift 2 0 0 128 [(0, .ref x0), (1, .int x1), (2, .int x2), (3, .int x3), (4, .int x4), (5, .int x5)] [.int z0] w (rIs (some (.int r0)) w0) := by
                        intro z27 h
                        rw [eK128] at h
                        refine rv_istore (l2 := [(6, .int z27), (0, .ref x0), (1, .int x1), (2, .int x2), (3, .int x3), (4, .int x4), (5, .int x5)]) dX10_shift_128 rfl rfl ?_
                        refine rv_iconst (v := 0) dX10_shift_130 (by decide) ?_
                        refine rv_istore (l2 := [(7, .int 0), (6, .int z27), (0, .ref x0), (1, .int x1), (2, .int x2), (3, .int x3), (4, .int x4), (5, .int x5)]) dX10_shift_131 rfl rfl ?_
                        exact rv_sub [2, 3, 4, 5, 6, 7, 1, 0] rfl (E_X10_shift_133 x0 x1 x2 x3 x4 x5 z27 2000 0 w h)
                      clear eK128
                      refine rv_icmp_lt 127 dX10_shift_120 (by decide) (fun c36 => ?_) (fun c36 => ?_)
                      · replace h := rIfT h c36
                        refine rv_iconst (v := 0) dX10_shift_127 (by decide) ?_
                        exact rv_sub [0, 1, 2, 3, 4, 5] rfl (hK128 0 h)
                      · replace h := rIfF h c36
                        refine rv_iconst (v := 1) dX10_shift_123 (by decide) ?_
                        refine rv_goto 128 dX10_shift_124 (by decide) ?_
                        exact rv_sub [0, 1, 2, 3, 4, 5] rfl (hK128 1 h)
                    · replace h := rIfF h c26
                      refine rv_bipush (v := (-13)) dX10_shift_104 (by decide) ?_
                      exact rv_iret .int dX10_shift_106 rfl rfl (rRetIw h)
          · replace h := rIfF h c17
            refine rv_bipush (v := (-12)) dX10_shift_52 (by decide) ?_
            exact rv_iret .int dX10_shift_54 rfl rfl (rRetIw h)
        · replace h := rIfF h c12
          refine rv_bipush (v := (-11)) dX10_shift_34 (by decide) ?_
          exact rv_iret .int dX10_shift_36 rfl rfl (rRetIw h)
    · replace h := rIfT h c6
      refine rv_iconst (v := (-1)) dX10_shift_14 (by decide) ?_
      exact rv_iret .int dX10_shift_15 rfl rfl (rRetIw h)

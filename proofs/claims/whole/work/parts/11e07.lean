set_option maxRecDepth 20000 in
theorem E_X10_in {x0 : Int64} {x2 : Int64} {x4 : Int64} {r0 : Bool} {w : rW} (h : J_X10_in x0 x2 x4 w = some r0) : rMet mX10_in 0 0 0 [.long x0, .long x2, .long x4] w (rIs (some (.int (bi r0))) w) := by
  unfold J_X10_in at h
  refine rMet_of (by decide) rfl ?_
  refine rv_lload_n 0 dX10_in_0 rfl ?_
  refine rv_lload_n 1 dX10_in_1 rfl ?_
  refine rv_lcmp dX10_in_2 ?_
  obtain ⟨K17, eK17, h⟩ := rLetE h
  have hK17 : K17 = some r0 → rEv mX10_in 0 0 0 17 [] [] w (rIs (some (.int (bi r0))) w) := by
    intro h
    rw [eK17] at h
    refine rv_iconst (v := 0) dX10_in_17 (by decide) ?_
    exact rv_iret .boolean dX10_in_18 rfl (by decide) (rRetZp (x := 0) h rfl)
  clear eK17
  refine rv_if_lt 17 dX10_in_3 (by decide) (fun c1 => ?_) (fun c1 => ?_)
  · replace h := rIfT h c1
    exact rv_sub [] rfl (hK17 h)
  · replace h := rIfF h c1
    refine rv_lload_n 0 dX10_in_6 rfl ?_
    refine rv_lload 2 dX10_in_7 rfl ?_
    refine rv_lcmp dX10_in_9 ?_
    refine rv_if_gt 17 dX10_in_10 (by decide) (fun c2 => ?_) (fun c2 => ?_)
    · replace h := rIfT h c2
      exact rv_sub [] rfl (hK17 h)
    · replace h := rIfF h c2
      refine rv_iconst (v := 1) dX10_in_13 (by decide) ?_
      refine rv_goto 18 dX10_in_14 (by decide) ?_
      exact rv_iret .boolean dX10_in_18 rfl (by decide) (rRetZp (x := 1) h rfl)
set_option maxRecDepth 20000 in
theorem E_X10_isBlock {x0 : Nat} {x1 : Int32} {r0 : Bool} {w : rW} (h : J_X10_isBlock x0 x1 w = some r0) : (∃ fs, w[x0]? = some (cO 10 fs)) ∧ rMet mX10_isBlock 1 0 0 [.ref x0, .int x1] w (rIs (some (.int (bi r0))) w) := by
  unfold J_X10_isBlock at h
  obtain ⟨hrc, h⟩ := rRc_some h
  refine ⟨hrc, ?_⟩
  refine rMet_of (by decide) rfl ?_
  refine rv_iload_n 1 dX10_isBlock_0 rfl ?_
  refine rv_i2l dX10_isBlock_1 ?_
  refine rv_lconst (v := 0) dX10_isBlock_2 (by decide) ?_
  refine rv_aload_n 0 dX10_isBlock_3 rfl ?_
  refine rv_getI ff_X10_110 dX10_isBlock_4 h (fun v1 h => ?_)
  refine rv_iconst (v := 1) dX10_isBlock_7 (by decide) ?_
  refine rv_isub dX10_isBlock_8 ?_
  refine rv_i2l dX10_isBlock_9 ?_
  obtain ⟨b3, h2, h⟩ := rBind h
  refine rv_callSr (k3 := 0) (n3 := 0) (st2 := []) (As := [.long (Int32.toInt64 x1), .long 0, .long (Int32.toInt64 (v1 - 1))]) caX10_in csX10_in ml_X10_116 dX10_isBlock_10 rfl (E_X10_in h2) rfl rfl rfl rfl rfl ?_
  clear h2
  exact rv_iret .boolean dX10_isBlock_13 rfl (nbi _) (rRetZp h rfl)
set_option maxRecDepth 20000 in
theorem E_X10_isPoint {x0 : Nat} {x1 : Int32} {r0 : Bool} {w : rW} (h : J_X10_isPoint x0 x1 w = some r0) : (∃ fs, w[x0]? = some (cO 10 fs)) ∧ rMet mX10_isPoint 1 0 0 [.ref x0, .int x1] w (rIs (some (.int (bi r0))) w) := by
  unfold J_X10_isPoint at h
  obtain ⟨hrc, h⟩ := rRc_some h
  refine ⟨hrc, ?_⟩
  refine rMet_of (by decide) rfl ?_
  refine rv_iload_n 1 dX10_isPoint_0 rfl ?_
  refine rv_i2l dX10_isPoint_1 ?_
  refine rv_lconst (v := 0) dX10_isPoint_2 (by decide) ?_
  refine rv_aload_n 0 dX10_isPoint_3 rfl ?_
  refine rv_getI ff_X10_9 dX10_isPoint_4 h (fun v1 h => ?_)
  refine rv_iconst (v := 1) dX10_isPoint_7 (by decide) ?_
  refine rv_isub dX10_isPoint_8 ?_
  refine rv_i2l dX10_isPoint_9 ?_
  obtain ⟨b3, h2, h⟩ := rBind h
  refine rv_callSr (k3 := 0) (n3 := 0) (st2 := []) (As := [.long (Int32.toInt64 x1), .long 0, .long (Int32.toInt64 (v1 - 1))]) caX10_in csX10_in ml_X10_116 dX10_isPoint_10 rfl (E_X10_in h2) rfl rfl rfl rfl rfl ?_
  clear h2
  exact rv_iret .boolean dX10_isPoint_13 rfl (nbi _) (rRetZp h rfl)
set_option maxRecDepth 20000 in
theorem E_X10_isSet {x0 : Nat} {x1 : Int32} {x2 : Int32} {r0 : Bool} {w : rW} (h : J_X10_isSet x0 x1 x2 w = some r0) : (∃ fs, w[x0]? = some (cO 10 fs)) ∧ rMet mX10_isSet 2 0 0 [.ref x0, .int x1, .int x2] w (rIs (some (.int (bi r0))) w) := by
  unfold J_X10_isSet at h
  obtain ⟨hrc, h⟩ := rRc_some h
  refine ⟨hrc, ?_⟩
  refine rMet_of (by decide) rfl ?_
  refine rv_iload_n 1 dX10_isSet_0 rfl ?_
  refine rv_i2l dX10_isSet_1 ?_
  refine rv_lconst (v := 0) dX10_isSet_2 (by decide) ?_
  refine rv_iconst (v := 1) dX10_isSet_3 (by decide) ?_
  refine rv_aload_n 0 dX10_isSet_4 rfl ?_
  refine rv_getI ff_X10_9 dX10_isSet_5 h (fun v1 h => ?_)
  refine rv_ishl dX10_isSet_8 ?_
  refine rv_iconst (v := 1) dX10_isSet_9 (by decide) ?_
  refine rv_isub dX10_isSet_10 ?_
  refine rv_i2l dX10_isSet_11 ?_
  obtain ⟨b3, h2, h⟩ := rBind h
  refine rv_callSr (k3 := 0) (n3 := 0) (st2 := []) (As := [.long (Int32.toInt64 x1), .long 0, .long (Int32.toInt64 ((1 <<< (v1 &&& 31)) - 1))]) caX10_in csX10_in ml_X10_116 dX10_isSet_12 rfl (E_X10_in h2) rfl rfl rfl rfl rfl ?_
  clear h2
  obtain ⟨K30, eK30, h⟩ := rLetE h
  have hK30 : K30 = some r0 → rEv mX10_isSet 2 0 0 30 [] [] w (rIs (some (.int (bi r0))) w) := by
    intro h
    rw [eK30] at h
    refine rv_iconst (v := 0) dX10_isSet_30 (by decide) ?_
    exact rv_iret .boolean dX10_isSet_31 rfl (by decide) (rRetZp (x := 0) h rfl)
  clear eK30
  refine rv_if_eq 30 dX10_isSet_15 (by decide) (fun c4 => ?_) (fun c4 => ?_)
  · replace h := rIfT h c4
    exact rv_sub [] rfl (hK30 h)
  · replace h := rIfF h c4
    refine rv_iload_n 1 dX10_isSet_18 rfl ?_
    obtain ⟨v6, h5, h⟩ := rBind h
    refine rv_callSr (k3 := 0) (n3 := 0) (st2 := []) (As := [.int x1]) caX10_size csX10_size ml_X10_113 dX10_isSet_19 rfl (E_X10_size h5) rfl rfl rfl rfl rfl ?_
    clear h5
    refine rv_iload_n 2 dX10_isSet_22 rfl ?_
    refine rv_icmp_gt 30 dX10_isSet_23 (by decide) (fun c7 => ?_) (fun c7 => ?_)
    · replace h := rIfT h c7
      exact rv_sub [] rfl (hK30 h)
    · replace h := rIfF h c7
      refine rv_iconst (v := 1) dX10_isSet_26 (by decide) ?_
      refine rv_goto 31 dX10_isSet_27 (by decide) ?_
      exact rv_iret .boolean dX10_isSet_31 rfl (by decide) (rRetZp (x := 1) h rfl)
set_option maxRecDepth 20000 in
theorem E_X10_isSize {x0 : Int32} {x1 : Int32} {x2 : Int32} {r0 : Bool} {w : rW} (h : J_X10_isSize x0 x1 x2 w = some r0) : rMet mX10_isSize 1 0 0 [.int x0, .int x1, .int x2] w (rIs (some (.int (bi r0))) w) := by
  unfold J_X10_isSize at h
  refine rMet_of (by decide) rfl ?_
  refine rv_iload_n 0 dX10_isSize_0 rfl ?_
  refine rv_i2l dX10_isSize_1 ?_
  refine rv_ldc2 dX10_isSize_2 kl_X10_120 ?_
  refine rv_ldc2 dX10_isSize_5 kl_X10_122 ?_
  obtain ⟨b2, h1, h⟩ := rBind h
  refine rv_callSr (k3 := 0) (n3 := 0) (st2 := []) (As := [.long (Int32.toInt64 x0), .long 4, .long 8]) caX10_in csX10_in ml_X10_116 dX10_isSize_8 rfl (E_X10_in h1) rfl rfl rfl rfl rfl ?_
  clear h1
  obtain ⟨K45, eK45, h⟩ := rLetE h
  have hK45 : K45 = some r0 → rEv mX10_isSize 1 0 0 45 [] [] w (rIs (some (.int (bi r0))) w) := by
    intro h
    rw [eK45] at h
    refine rv_iconst (v := 0) dX10_isSize_45 (by decide) ?_
    exact rv_iret .boolean dX10_isSize_46 rfl (by decide) (rRetZp (x := 0) h rfl)
  clear eK45
  refine rv_if_eq 45 dX10_isSize_11 (by decide) (fun c3 => ?_) (fun c3 => ?_)
  · replace h := rIfT h c3
    exact rv_sub [] rfl (hK45 h)
  · replace h := rIfF h c3
    refine rv_iload_n 1 dX10_isSize_14 rfl ?_
    refine rv_i2l dX10_isSize_15 ?_
    refine rv_ldc2 dX10_isSize_16 kl_X10_124 ?_
    refine rv_ldc2 dX10_isSize_19 kl_X10_126 ?_
    obtain ⟨b5, h4, h⟩ := rBind h
    refine rv_callSr (k3 := 0) (n3 := 0) (st2 := []) (As := [.long (Int32.toInt64 x1), .long 2, .long 3]) caX10_in csX10_in ml_X10_116 dX10_isSize_22 rfl (E_X10_in h4) rfl rfl rfl rfl rfl ?_
    clear h4
    refine rv_if_eq 45 dX10_isSize_25 (by decide) (fun c6 => ?_) (fun c6 => ?_)
    · replace h := rIfT h c6
      exact rv_sub [] rfl (hK45 h)
    · replace h := rIfF h c6
      refine rv_iload_n 2 dX10_isSize_28 rfl ?_
      refine rv_i2l dX10_isSize_29 ?_
      refine rv_lconst (v := 1) dX10_isSize_30 (by decide) ?_
      refine rv_iload_n 1 dX10_isSize_31 rfl ?_
      refine rv_iconst (v := 1) dX10_isSize_32 (by decide) ?_
      refine rv_isub dX10_isSize_33 ?_
      refine rv_i2l dX10_isSize_34 ?_
      obtain ⟨b8, h7, h⟩ := rBind h
      refine rv_callSr (k3 := 0) (n3 := 0) (st2 := []) (As := [.long (Int32.toInt64 x2), .long 1, .long (Int32.toInt64 (x1 - 1))]) caX10_in csX10_in ml_X10_116 dX10_isSize_35 rfl (E_X10_in h7) rfl rfl rfl rfl rfl ?_
      clear h7
      refine rv_if_eq 45 dX10_isSize_38 (by decide) (fun c9 => ?_) (fun c9 => ?_)
      · replace h := rIfT h c9
        exact rv_sub [] rfl (hK45 h)
      · replace h := rIfF h c9
        refine rv_iconst (v := 1) dX10_isSize_41 (by decide) ?_
        refine rv_goto 46 dX10_isSize_42 (by decide) ?_
        exact rv_iret .boolean dX10_isSize_46 rfl (by decide) (rRetZp (x := 1) h rfl)
set_option maxRecDepth 20000 in
theorem E_X10_shape {x0 : Nat} {r0 : Int32} {w : rW} (h : J_X10_shape x0 w = some r0) : (∃ fs, w[x0]? = some (cO 10 fs)) ∧ rMet mX10_shape 0 0 0 [.ref x0] w (rIs (some (.int r0)) w) := by
  unfold J_X10_shape at h
  obtain ⟨hrc, h⟩ := rRc_some h
  refine ⟨hrc, ?_⟩
  refine rMet_of (by decide) rfl ?_
  refine rv_bipush (v := 100) dX10_shape_0 (by decide) ?_
  refine rv_aload_n 0 dX10_shape_2 rfl ?_
  refine rv_getI ff_X10_9 dX10_shape_3 h (fun v1 h => ?_)
  refine rv_imul dX10_shape_6 ?_
  refine rv_bipush (v := 10) dX10_shape_7 (by decide) ?_
  refine rv_aload_n 0 dX10_shape_9 rfl ?_
  refine rv_getI ff_X10_15 dX10_shape_10 h (fun v2 h => ?_)
  refine rv_imul dX10_shape_13 ?_
  refine rv_iadd dX10_shape_14 ?_
  refine rv_aload_n 0 dX10_shape_15 rfl ?_
  refine rv_getI ff_X10_18 dX10_shape_16 h (fun v3 h => ?_)
  refine rv_iadd dX10_shape_19 ?_
  exact rv_iret .int dX10_shape_20 rfl rfl (rRetIp h)
set_option maxRecDepth 20000 in
theorem E_X10_becomes_22 {w0 : rW}  (x0 : Nat)   : ∀ (f : Nat) (x4 : Int32) (w : rW), J_X10_becomes_22 x0 f x4 w = some w0 → rEv mX10_becomes 3 0 0 22 [(0, .ref x0), (4, .int x4)] [] w (rIs none w0) := by
  intro f
  induction f with
  | zero =>
    intro x4 w h
    exact absurd (show (none : Option rW) = some w0 from h) (by simp)
  | succ f ih =>
    intro x4 w h
    rw [J_X10_becomes_22] at h
    refine rv_iload 1 dX10_becomes_22 rfl ?_
    refine rv_bipush (v := 56) dX10_becomes_24 (by decide) ?_
    refine rv_icmp_ge 59 dX10_becomes_26 (by decide) (fun c6 => ?_) (fun c6 => ?_)
    · replace h := rIfT h c6
      exact rv_vret dX10_becomes_59 rfl (rRetV h)
    · replace h := rIfF h c6
      refine rv_aload_n 0 dX10_becomes_29 rfl ?_
      refine rv_getR ff_X10_28 dX10_becomes_30 h (fun a7 h => ?_)
      refine rv_iload 1 dX10_becomes_33 rfl ?_
      refine rv_iconst (v := 0) dX10_becomes_35 (by decide) ?_
      refine rv_iastore dX10_becomes_36 h (fun w8 h => ?_)
      refine rv_aload_n 0 dX10_becomes_37 rfl ?_
      refine rv_getR ff_X10_31 dX10_becomes_38 h (fun a9 h => ?_)
      refine rv_iload 1 dX10_becomes_41 rfl ?_
      refine rv_iconst (v := 0) dX10_becomes_43 (by decide) ?_
      refine rv_iastore dX10_becomes_44 h (fun w10 h => ?_)
      refine rv_aload_n 0 dX10_becomes_45 rfl ?_
      refine rv_getR ff_X10_34 dX10_becomes_46 h (fun a11 h => ?_)
      refine rv_iload 1 dX10_becomes_49 rfl ?_
      refine rv_iconst (v := 0) dX10_becomes_51 (by decide) ?_
      refine rv_iastore dX10_becomes_52 h (fun w12 h => ?_)
      obtain ⟨v13, ev13, h⟩ := rLetE h
      refine rv_iinc (v := v13) (l2 := [(4, .int v13), (0, .ref x0)]) 1 dX10_becomes_53 rfl (by rw [ev13]; rfl) rfl rfl ?_
      clear ev13
      refine rv_goto 22 dX10_becomes_56 (by decide) ?_
      exact rv_sub [1, 0] rfl (ih v13 w12 h)
set_option maxRecDepth 20000 in
theorem E_X10_becomes {x0 : Nat} {x1 : Int32} {x2 : Int32} {x3 : Int32} {w0 : rW} {w : rW} (h : J_X10_becomes x0 x1 x2 x3 w = some w0) : (∃ fs, w[x0]? = some (cO 10 fs)) ∧ rMet mX10_becomes 3 0 0 [.ref x0, .int x1, .int x2, .int x3] w (rIs none w0) := by
  unfold J_X10_becomes at h
  obtain ⟨hrc, h⟩ := rRc_some h
  refine ⟨hrc, ?_⟩
  refine rMet_of (by decide) rfl ?_
  refine rv_aload_n 0 dX10_becomes_0 rfl ?_
  refine rv_iload_n 1 dX10_becomes_1 rfl ?_
  refine rv_putI ff_X10_9 (fp_X10_0 _) dX10_becomes_2 h (fun w1 h => ?_)
  refine rv_aload_n 0 dX10_becomes_5 rfl ?_
  refine rv_iload_n 2 dX10_becomes_6 rfl ?_
  refine rv_putI ff_X10_15 (fp_X10_1 _) dX10_becomes_7 h (fun w2 h => ?_)
  refine rv_aload_n 0 dX10_becomes_10 rfl ?_
  refine rv_iload_n 3 dX10_becomes_11 rfl ?_
  refine rv_putI ff_X10_18 (fp_X10_2 _) dX10_becomes_12 h (fun w3 h => ?_)
  refine rv_aload_n 0 dX10_becomes_15 rfl ?_
  obtain ⟨w5, h4, h⟩ := rBind h
  refine rv_callVv (k3 := 0) (n3 := 0) (st2 := []) caX10_lists cvX10_lists ml_X10_101 dX10_becomes_16 rfl (E_X10_lists h4).2 (E_X10_lists h4).1 rfl rfl rfl rfl rfl ?_
  clear h4
  refine rv_iconst (v := 0) dX10_becomes_19 (by decide) ?_
  refine rv_istore (l2 := [(4, .int 0), (0, .ref x0), (1, .int x1), (2, .int x2), (3, .int x3)]) dX10_becomes_20 rfl rfl ?_
  exact rv_sub [1, 0] rfl (E_X10_becomes_22 x0 2000 0 w5 h)
set_option maxRecDepth 20000 in
theorem E_X10_size_ {x0 : Nat} {x1 : Int32} {x2 : Int32} {x3 : Int32} {r0 : Int32} {w0 : rW} {w : rW} (h : J_X10_size_ x0 x1 x2 x3 w = some (r0, w0)) : (∃ fs, w[x0]? = some (cO 10 fs)) ∧ rMet mX10_size_ 4 0 0 [.ref x0, .int x1, .int x2, .int x3] w (rIs (some (.int r0)) w0) := by
  unfold J_X10_size_ at h
  obtain ⟨hrc, h⟩ := rRc_some h
  refine ⟨hrc, ?_⟩
  refine rMet_of (by decide) rfl ?_
  refine rv_iload_n 1 dX10_size__0 rfl ?_
  refine rv_iload_n 2 dX10_size__1 rfl ?_
  refine rv_iload_n 3 dX10_size__2 rfl ?_
  obtain ⟨b2, h1, h⟩ := rBind h
  refine rv_callSr (k3 := 0) (n3 := 0) (st2 := []) (As := [.int x1, .int x2, .int x3]) caX10_isSize csX10_isSize ml_X10_128 dX10_size__3 rfl (E_X10_isSize h1) rfl rfl rfl rfl rfl ?_
  clear h1
  refine rv_if_ne 12 dX10_size__6 (by decide) (fun c3 => ?_) (fun c3 => ?_)
  · replace h := rIfF h c3
    refine rv_aload_n 0 dX10_size__12 rfl ?_
    obtain ⟨v5, h4, h⟩ := rBind h
    refine rv_callVr (k3 := 0) (n3 := 0) (st2 := []) caX10_shape cvX10_shape ml_X10_132 dX10_size__13 rfl (E_X10_shape h4).2 (E_X10_shape h4).1 rfl rfl rfl rfl rfl ?_
    clear h4
    refine rv_istore (l2 := [(4, .int v5), (0, .ref x0), (1, .int x1), (2, .int x2), (3, .int x3)]) dX10_size__16 rfl rfl ?_
    refine rv_aload_n 1 dX10_size__18 rfl ?_
    refine rv_iload_n 2 dX10_size__19 rfl ?_
    refine rv_iload_n 3 dX10_size__20 rfl ?_
    refine rv_iload_n 4 dX10_size__21 rfl ?_
    obtain ⟨w7, h6, h⟩ := rBind h
    refine rv_callVv (k3 := 0) (n3 := 0) (st2 := []) caX10_becomes cvX10_becomes ml_X10_136 dX10_size__22 rfl (E_X10_becomes h6).2 (E_X10_becomes h6).1 rfl rfl rfl rfl rfl ?_
    clear h6
    refine rv_iload 0 dX10_size__25 rfl ?_
    exact rv_iret .int dX10_size__27 rfl rfl (rRetIw h)
  · replace h := rIfT h c3
    refine rv_bipush (v := (-2)) dX10_size__9 (by decide) ?_
    exact rv_iret .int dX10_size__11 rfl rfl (rRetIw h)
set_option maxRecDepth 20000 in
theorem E_X10_count {x0 : Nat} {x1 : Int32} {x2 : Int32} {r0 : Int32} {w0 : rW} {w : rW} (h : J_X10_count x0 x1 x2 w = some (r0, w0)) : (∃ fs, w[x0]? = some (cO 10 fs)) ∧ rMet mX10_count 2 0 0 [.ref x0, .int x1, .int x2] w (rIs (some (.int r0)) w0) := by
  unfold J_X10_count at h
  obtain ⟨hrc, h⟩ := rRc_some h
  refine ⟨hrc, ?_⟩
  refine rMet_of (by decide) rfl ?_
  refine rv_aload_n 0 dX10_count_0 rfl ?_
  refine rv_iload_n 1 dX10_count_1 rfl ?_
  obtain ⟨b2, h1, h⟩ := rBind h
  refine rv_callVr (k3 := 0) (n3 := 0) (st2 := []) caX10_isBlock cvX10_isBlock ml_X10_140 dX10_count_2 rfl (E_X10_isBlock h1).2 (E_X10_isBlock h1).1 rfl rfl rfl rfl rfl ?_
  clear h1
  refine rv_if_ne 10 dX10_count_5 (by decide) (fun c3 => ?_) (fun c3 => ?_)
  · replace h := rIfF h c3
    refine rv_iload_n 2 dX10_count_10 rfl ?_
    refine rv_i2l dX10_count_11 ?_
    refine rv_ldc2 dX10_count_12 kl_X10_144 ?_
    refine rv_ldc2 dX10_count_15 kl_X10_146 ?_
    obtain ⟨b5, h4, h⟩ := rBind h
    refine rv_callSr (k3 := 0) (n3 := 0) (st2 := []) (As := [.long (Int32.toInt64 x2), .long (-99), .long 99]) caX10_in csX10_in ml_X10_116 dX10_count_18 rfl (E_X10_in h4) rfl rfl rfl rfl rfl ?_
    clear h4
    refine rv_if_ne 27 dX10_count_21 (by decide) (fun c6 => ?_) (fun c6 => ?_)
    · replace h := rIfF h c6
      refine rv_aload_n 0 dX10_count_27 rfl ?_
      refine rv_getR ff_X10_28 dX10_count_28 h (fun a7 h => ?_)
      refine rv_iload_n 1 dX10_count_31 rfl ?_
      refine rv_iaload dX10_count_32 h (fun v8 h => ?_)
      refine rv_istore_n (l2 := [(3, .int v8), (0, .ref x0), (1, .int x1), (2, .int x2)]) dX10_count_33 rfl rfl ?_
      refine rv_aload_n 1 dX10_count_34 rfl ?_
      refine rv_getR ff_X10_28 dX10_count_35 h (fun a9 h => ?_)
      refine rv_iload_n 2 dX10_count_38 rfl ?_
      refine rv_iload_n 3 dX10_count_39 rfl ?_
      refine rv_iastore dX10_count_40 h (fun w10 h => ?_)
      refine rv_iload_n 0 dX10_count_41 rfl ?_
      refine rv_bipush (v := 100) dX10_count_42 (by decide) ?_
      refine rv_iadd dX10_count_44 ?_
      exact rv_iret .int dX10_count_45 rfl rfl (rRetIw h)
    · replace h := rIfT h c6
      refine rv_bipush (v := (-2)) dX10_count_24 (by decide) ?_
      exact rv_iret .int dX10_count_26 rfl rfl (rRetIw h)
  · replace h := rIfT h c3
    refine rv_iconst (v := (-1)) dX10_count_8 (by decide) ?_
    exact rv_iret .int dX10_count_9 rfl rfl (rRetIw h)
set_option maxRecDepth 20000 in
theorem E_X10_volume_4 {r0 : Int32}  (x0 : Nat) (w : rW)   : ∀ (f : Nat) (x1 : Int32) (x2 : Int32), J_X10_volume_4 x0 w f x1 x2 = some r0 → rEv mX10_volume 1 0 0 4 [(0, .ref x0), (1, .int x1), (2, .int x2)] [] w (rIs (some (.int r0)) w) := by
  intro f
  induction f with
  | zero =>
    intro x1 x2 h
    exact absurd (show (none : Option Int32) = some r0 from h) (by simp)
  | succ f ih =>
    intro x1 x2 h
    rw [J_X10_volume_4] at h
    refine rv_iload_n 2 dX10_volume_4 rfl ?_
    refine rv_aload_n 0 dX10_volume_5 rfl ?_
    refine rv_getI ff_X10_110 dX10_volume_6 h (fun v1 h => ?_)
    refine rv_icmp_ge 31 dX10_volume_9 (by decide) (fun c2 => ?_) (fun c2 => ?_)
    · replace h := rIfT h c2
      refine rv_iload_n 1 dX10_volume_31 rfl ?_
      exact rv_iret .int dX10_volume_32 rfl rfl (rRetIp h)
    · replace h := rIfF h c2
      refine rv_iload_n 1 dX10_volume_12 rfl ?_
      refine rv_iconst (v := 0) dX10_volume_13 (by decide) ?_
      refine rv_aload_n 0 dX10_volume_14 rfl ?_
      refine rv_getR ff_X10_28 dX10_volume_15 h (fun a3 h => ?_)
      refine rv_iload_n 2 dX10_volume_18 rfl ?_
      refine rv_iaload dX10_volume_19 h (fun v4 h => ?_)
      refine rv_mmax ml_X10_148 sm_J9_max_7cf53 in_J9 co_J9_max_7cf53 dX10_volume_20 rfl rfl ?_
      refine rv_iadd dX10_volume_23 ?_
      refine rv_letI h (fun v5 h => ?_)
      refine rv_istore_n (l2 := [(1, .int v5), (0, .ref x0), (2, .int x2)]) dX10_volume_24 rfl rfl ?_
      obtain ⟨v6, ev6, h⟩ := rLetE h
      refine rv_iinc (v := v6) (l2 := [(2, .int v6), (1, .int v5), (0, .ref x0)]) 2 dX10_volume_25 rfl (by rw [ev6]; rfl) rfl rfl ?_
      clear ev6
      refine rv_goto 4 dX10_volume_28 (by decide) ?_
      exact rv_sub [2, 1, 0] rfl (ih v5 v6 h)
set_option maxRecDepth 20000 in
theorem E_X10_volume {x0 : Nat} {r0 : Int32} {w : rW} (h : J_X10_volume x0 w = some r0) : (∃ fs, w[x0]? = some (cO 10 fs)) ∧ rMet mX10_volume 1 0 0 [.ref x0] w (rIs (some (.int r0)) w) := by
  unfold J_X10_volume at h
  obtain ⟨hrc, h⟩ := rRc_some h
  refine ⟨hrc, ?_⟩
  refine rMet_of (by decide) rfl ?_
  refine rv_iconst (v := 0) dX10_volume_0 (by decide) ?_
  refine rv_istore_n (l2 := [(1, .int 0), (0, .ref x0)]) dX10_volume_1 rfl rfl ?_
  refine rv_iconst (v := 0) dX10_volume_2 (by decide) ?_
  refine rv_istore_n (l2 := [(2, .int 0), (1, .int 0), (0, .ref x0)]) dX10_volume_3 rfl rfl ?_
  exact rv_sub [2, 1, 0] rfl (E_X10_volume_4 x0 w 2000 0 0 h)
set_option maxRecDepth 20000 in
theorem E_X10_twists_180 {r0 : Bool} {w0 : rW}  (x0 : Nat) (x5 : Int32) (x6 : Int32) (w : rW)  {K219 : Int32 → Option (Bool × rW)} (hK219 : ∀ (y7 : Int32), K219 y7 = some (r0, w0) → rEv mX10_twists 2 0 0 219 [(0, .ref x0), (5, .int x5), (6, .int x6), (7, .int y7)] [] w (rIs (some (.int (bi r0))) w0)) : ∀ (f : Nat) (x7 : Int32) (x8 : Int32), J_X10_twists_180 x0 x6 w K219 f x7 x8 = some (r0, w0) → rEv mX10_twists 2 0 0 180 [(0, .ref x0), (5, .int x5), (6, .int x6), (7, .int x7), (8, .int x8)] [] w (rIs (some (.int (bi r0))) w0) := by
  intro f
  induction f with
  | zero =>
    intro x7 x8 h
    exact absurd (show (none : Option (Bool × rW)) = some (r0, w0) from h) (by simp)
  | succ f ih =>
    intro x7 x8 h
    rw [J_X10_twists_180] at h
    refine rv_iload 4 dX10_twists_180 rfl ?_
    refine rv_aload_n 0 dX10_twists_182 rfl ?_
    refine rv_getI ff_X10_18 dX10_twists_183 h (fun v27 h => ?_)
    refine rv_icmp_gt 219 dX10_twists_186 (by decide) (fun c28 => ?_) (fun c28 => ?_)
    · replace h := rIfT h c28
      exact rv_sub [0, 1, 2, 3] rfl (hK219 x7 h)
    · replace h := rIfF h c28
      refine rv_iload 3 dX10_twists_189 rfl ?_
      refine rv_iconst (v := 1) dX10_twists_191 (by decide) ?_
      refine rv_aload_n 0 dX10_twists_192 rfl ?_
      refine rv_getR ff_X10_83 dX10_twists_193 h (fun a29 h => ?_)
      refine rv_iconst (v := 2) dX10_twists_196 (by decide) ?_
      refine rv_iload 4 dX10_twists_197 rfl ?_
      refine rv_imul dX10_twists_199 ?_
      refine rv_iload 2 dX10_twists_200 rfl ?_
      refine rv_iload 4 dX10_twists_202 rfl ?_
      refine rv_ishr dX10_twists_204 ?_
      refine rv_iconst (v := 1) dX10_twists_205 (by decide) ?_
      refine rv_iand dX10_twists_206 ?_
      refine rv_iadd dX10_twists_207 ?_
      refine rv_iaload dX10_twists_208 h (fun v30 h => ?_)
      refine rv_ishl dX10_twists_209 ?_
      refine rv_ior dX10_twists_210 ?_
      refine rv_letI h (fun v31 h => ?_)
      refine rv_istore (l2 := [(7, .int v31), (0, .ref x0), (5, .int x5), (6, .int x6), (8, .int x8)]) dX10_twists_211 rfl rfl ?_
      obtain ⟨v32, ev32, h⟩ := rLetE h
      refine rv_iinc (v := v32) (l2 := [(8, .int v32), (7, .int v31), (0, .ref x0), (5, .int x5), (6, .int x6)]) 4 dX10_twists_213 rfl (by rw [ev32]; rfl) rfl rfl ?_
      clear ev32
      refine rv_goto 180 dX10_twists_216 (by decide) ?_
      exact rv_sub [2, 3, 4, 1, 0] rfl (ih v31 v32 h)
set_option maxRecDepth 20000 in
theorem E_X10_twists_160 {r0 : Bool} {w0 : rW}  (x0 : Nat) (x5 : Int32)   : ∀ (f : Nat) (x6 : Int32) (w : rW), J_X10_twists_160 x0 x5 f x6 w = some (r0, w0) → rEv mX10_twists 2 0 0 160 [(0, .ref x0), (5, .int x5), (6, .int x6)] [] w (rIs (some (.int (bi r0))) w0) := by
  intro f
  induction f with
  | zero =>
    intro x6 w h
    exact absurd (show (none : Option (Bool × rW)) = some (r0, w0) from h) (by simp)
  | succ f ih =>
    intro x6 w h
    rw [J_X10_twists_160] at h
    refine rv_iload 2 dX10_twists_160 rfl ?_
    refine rv_iconst (v := 1) dX10_twists_162 (by decide) ?_
    refine rv_aload_n 0 dX10_twists_163 rfl ?_
    refine rv_getI ff_X10_18 dX10_twists_164 h (fun v12 h => ?_)
    refine rv_iconst (v := 1) dX10_twists_167 (by decide) ?_
    refine rv_iadd dX10_twists_168 ?_
    refine rv_ishl dX10_twists_169 ?_
    refine rv_icmp_ge 252 dX10_twists_170 (by decide) (fun c13 => ?_) (fun c13 => ?_)
    · replace h := rIfT h c13
      refine rv_iconst (v := 1) dX10_twists_252 (by decide) ?_
      exact rv_iret .boolean dX10_twists_253 rfl (by decide) (rRetZw (x := 1) h rfl)
    · replace h := rIfF h c13
      refine rv_iload 1 dX10_twists_173 rfl ?_
      refine rv_istore (l2 := [(7, .int x5), (0, .ref x0), (5, .int x5), (6, .int x6)]) dX10_twists_175 rfl rfl ?_
      refine rv_iconst (v := 0) dX10_twists_177 (by decide) ?_
      refine rv_istore (l2 := [(8, .int 0), (7, .int x5), (0, .ref x0), (5, .int x5), (6, .int x6)]) dX10_twists_178 rfl rfl ?_
      obtain ⟨K219, eK219, h⟩ := rLetE h
      have hK219 : ∀ (y7 : Int32), K219 y7 = some (r0, w0) → rEv mX10_twists 2 0 0 219 [(0, .ref x0), (5, .int x5), (6, .int x6), (7, .int y7)] [] w (rIs (some (.int (bi r0))) w0) := by
        intro x7_14 h
        rw [eK219] at h
        refine rv_aload_n 0 dX10_twists_219 rfl ?_
        refine rv_getR ff_X10_80 dX10_twists_220 h (fun a15 h => ?_)
        refine rv_aload_n 0 dX10_twists_223 rfl ?_
        refine rv_getR ff_X10_25 dX10_twists_224 h (fun a16 h => ?_)
        refine rv_iload 3 dX10_twists_227 rfl ?_
        refine rv_iaload dX10_twists_229 h (fun v17 h => ?_)
        refine rv_iload 2 dX10_twists_230 rfl ?_
        obtain ⟨v19, h18, h⟩ := rBind h
        refine rv_callSr (k3 := 0) (n3 := 0) (st2 := [.int v17, .ref a15]) (As := [.int x6]) caX10_size csX10_size ml_X10_113 dX10_twists_232 rfl (E_X10_size h18) rfl rfl rfl rfl rfl ?_
        clear h18
        refine rv_iconst (v := 2) dX10_twists_235 (by decide) ?_
        refine rv_iremB dX10_twists_236 h (fun v20 h => ?_)
        obtain ⟨K245, eK245, h⟩ := rLetE h
        have hK245 : ∀ (z0 : Nat) (z1 : Int32) (z2 : Int32), K245 z0 z1 z2 = some (r0, w0) → rEv mX10_twists 2 0 0 245 [(0, .ref x0), (5, .int x5), (6, .int x6)] [.int z2, .int z1, .ref z0] w (rIs (some (.int (bi r0))) w0) := by
          intro z21 z22 z23 h
          rw [eK245] at h
          refine rv_iastore dX10_twists_245 h (fun w24 h => ?_)
          obtain ⟨v25, ev25, h⟩ := rLetE h
          refine rv_iinc (v := v25) (l2 := [(6, .int v25), (0, .ref x0), (5, .int x5)]) 2 dX10_twists_246 rfl (by rw [ev25]; rfl) rfl rfl ?_
          clear ev25
          refine rv_goto 160 dX10_twists_249 (by decide) ?_
          exact rv_sub [1, 2, 0] rfl (ih v25 w24 h)
        clear eK245
        refine rv_if_ne 244 dX10_twists_237 (by decide) (fun c26 => ?_) (fun c26 => ?_)
        · replace h := rIfF h c26
          refine rv_iconst (v := (-1)) dX10_twists_244 (by decide) ?_
          exact rv_sub [0, 1, 2] rfl (hK245 a15 v17 (-1) h)
        · replace h := rIfT h c26
          refine rv_iconst (v := 1) dX10_twists_240 (by decide) ?_
          refine rv_goto 245 dX10_twists_241 (by decide) ?_
          exact rv_sub [0, 1, 2] rfl (hK245 a15 v17 1 h)
      clear eK219
      exact rv_sub [2, 3, 4, 1, 0] rfl (E_X10_twists_180 x0 x5 x6 w hK219 2000 x5 0 h)
set_option maxRecDepth 20000 in
theorem E_X10_twists_131 {r0 : Bool} {w0 : rW}  (x0 : Nat) (x2 : Int32) (w : rW)  {K157 : Int32 → Option (Bool × rW)} (hK157 : ∀ (y5 : Int32), K157 y5 = some (r0, w0) → rEv mX10_twists 2 0 0 157 [(0, .ref x0), (5, .int y5)] [] w (rIs (some (.int (bi r0))) w0)) : ∀ (f : Nat) (x5 : Int32) (x6 : Int32), J_X10_twists_131 x0 x2 w K157 f x5 x6 = some (r0, w0) → rEv mX10_twists 2 0 0 131 [(0, .ref x0), (2, .int x2), (5, .int x5), (6, .int x6)] [] w (rIs (some (.int (bi r0))) w0) := by
  intro f
  induction f with
  | zero =>
    intro x5 x6 h
    exact absurd (show (none : Option (Bool × rW)) = some (r0, w0) from h) (by simp)
  | succ f ih =>
    intro x5 x6 h
    rw [J_X10_twists_131] at h
    refine rv_iload 3 dX10_twists_131 rfl ?_
    refine rv_iload_n 1 dX10_twists_133 rfl ?_
    refine rv_icmp_ge 157 dX10_twists_134 (by decide) (fun c33 => ?_) (fun c33 => ?_)
    · replace h := rIfT h c33
      exact rv_sub [0, 2] rfl (hK157 x5 h)
    · replace h := rIfF h c33
      refine rv_iload 2 dX10_twists_137 rfl ?_
      refine rv_iconst (v := 1) dX10_twists_139 (by decide) ?_
      refine rv_aload_n 0 dX10_twists_140 rfl ?_
      refine rv_getR ff_X10_83 dX10_twists_141 h (fun a34 h => ?_)
      refine rv_iload 3 dX10_twists_144 rfl ?_
      refine rv_iaload dX10_twists_146 h (fun v35 h => ?_)
      refine rv_ishl dX10_twists_147 ?_
      refine rv_ior dX10_twists_148 ?_
      refine rv_letI h (fun v36 h => ?_)
      refine rv_istore (l2 := [(5, .int v36), (0, .ref x0), (2, .int x2), (6, .int x6)]) dX10_twists_149 rfl rfl ?_
      obtain ⟨v37, ev37, h⟩ := rLetE h
      refine rv_iinc (v := v37) (l2 := [(6, .int v37), (5, .int v36), (0, .ref x0), (2, .int x2)]) 3 dX10_twists_151 rfl (by rw [ev37]; rfl) rfl rfl ?_
      clear ev37
      refine rv_goto 131 dX10_twists_154 (by decide) ?_
      exact rv_sub [2, 3, 1, 0] rfl (ih v36 v37 h)
set_option maxRecDepth 20000 in
theorem E_X10_twists_95 {r0 : Bool} {w0 : rW}  (x0 : Nat) (x2 : Int32)  {K118 : rW → Option (Bool × rW)} (hK118 : ∀ (w : rW), K118 w = some (r0, w0) → rEv mX10_twists 2 0 0 118 [(0, .ref x0), (2, .int x2)] [] w (rIs (some (.int (bi r0))) w0)) : ∀ (f : Nat) (x5 : Int32) (w : rW), J_X10_twists_95 x0 K118 f x5 w = some (r0, w0) → rEv mX10_twists 2 0 0 95 [(0, .ref x0), (2, .int x2), (5, .int x5)] [] w (rIs (some (.int (bi r0))) w0) := by
  intro f
  induction f with
  | zero =>
    intro x5 w h
    exact absurd (show (none : Option (Bool × rW)) = some (r0, w0) from h) (by simp)
  | succ f ih =>
    intro x5 w h
    rw [J_X10_twists_95] at h
    refine rv_iload 2 dX10_twists_95 rfl ?_
    refine rv_aload_n 0 dX10_twists_97 rfl ?_
    refine rv_getI ff_X10_110 dX10_twists_98 h (fun v38 h => ?_)
    refine rv_icmp_ge 118 dX10_twists_101 (by decide) (fun c39 => ?_) (fun c39 => ?_)
    · replace h := rIfT h c39
      exact rv_sub [0, 1] rfl (hK118 w h)
    · replace h := rIfF h c39
      refine rv_aload_n 0 dX10_twists_104 rfl ?_
      refine rv_getR ff_X10_80 dX10_twists_105 h (fun a40 h => ?_)
      refine rv_iload 2 dX10_twists_108 rfl ?_
      refine rv_iconst (v := 0) dX10_twists_110 (by decide) ?_
      refine rv_iastore dX10_twists_111 h (fun w41 h => ?_)
      obtain ⟨v42, ev42, h⟩ := rLetE h
      refine rv_iinc (v := v42) (l2 := [(5, .int v42), (0, .ref x0), (2, .int x2)]) 2 dX10_twists_112 rfl (by rw [ev42]; rfl) rfl rfl ?_
      clear ev42
      refine rv_goto 95 dX10_twists_115 (by decide) ?_
      exact rv_sub [1, 2, 0] rfl (ih v42 w41 h)
set_option maxRecDepth 20000 in
theorem E_X10_twists_22 {r0 : Bool} {w0 : rW}  (x0 : Nat) (x2 : Int32)  {K86 : Int32 → rW → Option (Bool × rW)} (hK86 : ∀ (y3 : Int32) (w : rW), K86 y3 w = some (r0, w0) → rEv mX10_twists 2 0 0 86 [(0, .ref x0), (2, .int x2), (3, .int y3)] [] w (rIs (some (.int (bi r0))) w0)) : ∀ (f : Nat) (x3 : Int32) (x4 : Int32) (x5 : Int32) (w : rW), J_X10_twists_22 x0 K86 f x3 x4 x5 w = some (r0, w0) → rEv mX10_twists 2 0 0 22 [(0, .ref x0), (2, .int x2), (3, .int x3), (4, .int x4), (5, .int x5)] [] w (rIs (some (.int (bi r0))) w0) := by
  intro f
  induction f with
  | zero =>
    intro x3 x4 x5 w h
    exact absurd (show (none : Option (Bool × rW)) = some (r0, w0) from h) (by simp)
  | succ f ih =>
    intro x3 x4 x5 w h
    rw [J_X10_twists_22] at h
    refine rv_iload 4 dX10_twists_22 rfl ?_
    refine rv_if_lt 86 dX10_twists_24 (by decide) (fun c43 => ?_) (fun c43 => ?_)
    · replace h := rIfT h c43
      exact rv_sub [0, 1, 2] rfl (hK86 x3 w h)
    · replace h := rIfF h c43
      refine rv_iload_n 2 dX10_twists_27 rfl ?_
      refine rv_bipush (v := 10) dX10_twists_28 (by decide) ?_
      refine rv_iremB dX10_twists_30 h (fun v44 h => ?_)
      refine rv_iconst (v := 1) dX10_twists_31 (by decide) ?_
      refine rv_isub dX10_twists_32 ?_
      refine rv_letI h (fun v45 h => ?_)
      refine rv_istore (l2 := [(6, .int v45), (0, .ref x0), (2, .int x2), (3, .int x3), (4, .int x4), (5, .int x5)]) dX10_twists_33 rfl rfl ?_
      refine rv_iload_n 3 dX10_twists_35 rfl ?_
      refine rv_bipush (v := 10) dX10_twists_36 (by decide) ?_
      refine rv_idivB dX10_twists_38 h (fun v46 h => ?_)
      refine rv_istore_n (l2 := [(3, .int v46), (6, .int v45), (0, .ref x0), (2, .int x2), (4, .int x4), (5, .int x5)]) dX10_twists_39 rfl rfl ?_
      refine rv_aload_n 2 dX10_twists_40 rfl ?_
      refine rv_iload 1 dX10_twists_41 rfl ?_
      obtain ⟨b48, h47, h⟩ := rBind h
      refine rv_callVr (k3 := 0) (n3 := 0) (st2 := []) caX10_isPoint cvX10_isPoint ml_X10_154 dX10_twists_43 rfl (E_X10_isPoint h47).2 (E_X10_isPoint h47).1 rfl rfl rfl rfl rfl ?_
      clear h47
      refine rv_if_eq 60 dX10_twists_46 (by decide) (fun c49 => ?_) (fun c49 => ?_)
      · replace h := rIfT h c49
        refine rv_iconst (v := 0) dX10_twists_60 (by decide) ?_
        exact rv_iret .boolean dX10_twists_61 rfl (by decide) (rRetZw (x := 0) h rfl)
      · replace h := rIfF h c49
        refine rv_iload 4 dX10_twists_49 rfl ?_
        refine rv_iload 1 dX10_twists_51 rfl ?_
        refine rv_ishr dX10_twists_53 ?_
        refine rv_iconst (v := 1) dX10_twists_54 (by decide) ?_
        refine rv_iand dX10_twists_55 ?_
        refine rv_iconst (v := 1) dX10_twists_56 (by decide) ?_
        refine rv_icmp_ne 62 dX10_twists_57 (by decide) (fun c50 => ?_) (fun c50 => ?_)
        · replace h := rIfF h c50
          refine rv_iload 4 dX10_twists_62 rfl ?_
          refine rv_iconst (v := 1) dX10_twists_64 (by decide) ?_
          refine rv_iload 1 dX10_twists_65 rfl ?_
          refine rv_ishl dX10_twists_67 ?_
          refine rv_ior dX10_twists_68 ?_
          refine rv_letI h (fun v51 h => ?_)
          refine rv_istore (l2 := [(4, .int v51), (3, .int v46), (6, .int v45), (0, .ref x0), (2, .int x2), (5, .int x5)]) dX10_twists_69 rfl rfl ?_
          refine rv_aload_n 3 dX10_twists_71 rfl ?_
          refine rv_getR ff_X10_83 dX10_twists_72 h (fun a52 h => ?_)
          refine rv_iload 5 dX10_twists_75 rfl ?_
          refine rv_iload 2 dX10_twists_77 rfl ?_
          refine rv_iastore dX10_twists_79 h (fun w53 h => ?_)
          obtain ⟨v54, ev54, h⟩ := rLetE h
          refine rv_iinc (v := v54) (l2 := [(5, .int v54), (4, .int v51), (3, .int v46), (6, .int v45), (0, .ref x0), (2, .int x2)]) 5 dX10_twists_80 rfl (by rw [ev54]; rfl) rfl rfl ?_
          clear ev54
          refine rv_goto 22 dX10_twists_83 (by decide) ?_
          exact rv_sub [4, 5, 2, 1, 0] rfl (ih v46 v51 v54 w53 h)
        · replace h := rIfT h c50
          refine rv_iconst (v := 0) dX10_twists_60 (by decide) ?_
          exact rv_iret .boolean dX10_twists_61 rfl (by decide) (rRetZw (x := 0) h rfl)
set_option maxRecDepth 20000 in
theorem E_X10_twists {x0 : Nat} {x1 : Int32} {r0 : Bool} {w0 : rW} {w : rW} (h : J_X10_twists x0 x1 w = some (r0, w0)) : (∃ fs, w[x0]? = some (cO 10 fs)) ∧ rMet mX10_twists 2 0 0 [.ref x0, .int x1] w (rIs (some (.int (bi r0))) w0) := by
  unfold J_X10_twists at h
  obtain ⟨hrc, h⟩ := rRc_some h
  refine ⟨hrc, ?_⟩
  refine rMet_of (by decide) rfl ?_
  refine rv_aload_n 0 dX10_twists_0 rfl ?_
  refine rv_getI ff_X10_18 dX10_twists_1 h (fun v1 h => ?_)
  refine rv_aload_n 0 dX10_twists_4 rfl ?_
  refine rv_getI ff_X10_15 dX10_twists_5 h (fun v2 h => ?_)
  refine rv_iadd dX10_twists_8 ?_
  refine rv_iconst (v := 1) dX10_twists_9 (by decide) ?_
  refine rv_iadd dX10_twists_10 ?_
  refine rv_letI h (fun v3 h => ?_)
  refine rv_istore_n (l2 := [(2, .int v3), (0, .ref x0), (1, .int x1)]) dX10_twists_11 rfl rfl ?_
  refine rv_iload_n 2 dX10_twists_12 rfl ?_
  refine rv_istore_n (l2 := [(3, .int x1), (2, .int v3), (0, .ref x0), (1, .int x1)]) dX10_twists_13 rfl rfl ?_
  refine rv_iconst (v := 0) dX10_twists_14 (by decide) ?_
  refine rv_istore (l2 := [(4, .int 0), (3, .int x1), (2, .int v3), (0, .ref x0), (1, .int x1)]) dX10_twists_15 rfl rfl ?_
  refine rv_iload_n 2 dX10_twists_17 rfl ?_
  refine rv_iconst (v := 1) dX10_twists_18 (by decide) ?_
  refine rv_isub dX10_twists_19 ?_
  refine rv_letI h (fun v4 h => ?_)
  refine rv_istore (l2 := [(5, .int v4), (4, .int 0), (3, .int x1), (2, .int v3), (0, .ref x0), (1, .int x1)]) dX10_twists_20 rfl rfl ?_
  obtain ⟨K86, eK86, h⟩ := rLetE h
  have hK86 : ∀ (y3 : Int32) (w : rW), K86 y3 w = some (r0, w0) → rEv mX10_twists 2 0 0 86 [(0, .ref x0), (2, .int v3), (3, .int y3)] [] w (rIs (some (.int (bi r0))) w0) := by
    intro x3_5 w6 h
    rw [eK86] at h
    refine rv_iload_n 2 dX10_twists_86 rfl ?_
    refine rv_if_eq 92 dX10_twists_87 (by decide) (fun c7 => ?_) (fun c7 => ?_)
    · replace h := rIfT h c7
      refine rv_iconst (v := 0) dX10_twists_92 (by decide) ?_
      refine rv_istore (l2 := [(5, .int 0), (0, .ref x0), (2, .int v3), (3, .int x3_5)]) dX10_twists_93 rfl rfl ?_
      obtain ⟨K118, eK118, h⟩ := rLetE h
      have hK118 : ∀ (w : rW), K118 w = some (r0, w0) → rEv mX10_twists 2 0 0 118 [(0, .ref x0), (2, .int v3)] [] w (rIs (some (.int (bi r0))) w0) := by
        intro w8 h
        rw [eK118] at h
        refine rv_iconst (v := 0) dX10_twists_118 (by decide) ?_
        refine rv_istore (l2 := [(5, .int 0), (0, .ref x0), (2, .int v3)]) dX10_twists_119 rfl rfl ?_
        refine rv_iconst (v := 2) dX10_twists_121 (by decide) ?_
        refine rv_aload_n 1 dX10_twists_122 rfl ?_
        refine rv_getI ff_X10_18 dX10_twists_123 h (fun v9 h => ?_)
        refine rv_imul dX10_twists_126 ?_
        refine rv_iconst (v := 2) dX10_twists_127 (by decide) ?_
        refine rv_iadd dX10_twists_128 ?_
        refine rv_letI h (fun v10 h => ?_)
        refine rv_istore (l2 := [(6, .int v10), (5, .int 0), (0, .ref x0), (2, .int v3)]) dX10_twists_129 rfl rfl ?_
        obtain ⟨K157, eK157, h⟩ := rLetE h
        have hK157 : ∀ (y5 : Int32), K157 y5 = some (r0, w0) → rEv mX10_twists 2 0 0 157 [(0, .ref x0), (5, .int y5)] [] w8 (rIs (some (.int (bi r0))) w0) := by
          intro x5_11 h
          rw [eK157] at h
          refine rv_iconst (v := 0) dX10_twists_157 (by decide) ?_
          refine rv_istore (l2 := [(6, .int 0), (0, .ref x0), (5, .int x5_11)]) dX10_twists_158 rfl rfl ?_
          exact rv_sub [1, 2, 0] rfl (E_X10_twists_160 x0 x5_11 2000 0 w8 h)
        clear eK157
        exact rv_sub [2, 3, 1, 0] rfl (E_X10_twists_131 x0 v3 w8 hK157 2000 0 v10 h)
      clear eK118
      exact rv_sub [1, 2, 0] rfl (E_X10_twists_95 x0 v3 hK118 2000 0 w6 h)
    · replace h := rIfF h c7
      refine rv_iconst (v := 0) dX10_twists_90 (by decide) ?_
      exact rv_iret .boolean dX10_twists_91 rfl (by decide) (rRetZw (x := 0) h rfl)
  clear eK86
  exact rv_sub [4, 3, 2, 1, 0] rfl (E_X10_twists_22 x0 v3 hK86 2000 x1 0 v4 w h)
set_option maxRecDepth 20000 in
theorem E_X10_adds_48 {r0 : Bool} {w0 : rW}  (x0 : Nat) (x1 : Int32)   : ∀ (f : Nat) (x2 : Int32) (w : rW), J_X10_adds_48 x0 x1 f x2 w = some (r0, w0) → rEv mX10_adds 1 0 0 48 [(0, .ref x0), (1, .int x1), (2, .int x2)] [] w (rIs (some (.int (bi r0))) w0) := by
  intro f
  induction f with
  | zero =>
    intro x2 w h
    exact absurd (show (none : Option (Bool × rW)) = some (r0, w0) from h) (by simp)
  | succ f ih =>
    intro x2 w h
    rw [J_X10_adds_48] at h
    refine rv_iload_n 2 dX10_adds_48 rfl ?_
    refine rv_aload_n 0 dX10_adds_49 rfl ?_
    refine rv_getI ff_X10_110 dX10_adds_50 h (fun v1 h => ?_)
    refine rv_icmp_ge 79 dX10_adds_53 (by decide) (fun c2 => ?_) (fun c2 => ?_)
    · replace h := rIfT h c2
      refine rv_iconst (v := 1) dX10_adds_79 (by decide) ?_
      exact rv_iret .boolean dX10_adds_80 rfl (by decide) (rRetZw (x := 1) h rfl)
    · replace h := rIfF h c2
      refine rv_aload_n 0 dX10_adds_56 rfl ?_
      refine rv_getR ff_X10_28 dX10_adds_57 h (fun a3 h => ?_)
      refine rv_iload_n 2 dX10_adds_60 rfl ?_
      refine rv_dup2 dX10_adds_61 rfl rfl ?_
      refine rv_iaload dX10_adds_62 h (fun v4 h => ?_)
      refine rv_iload_n 1 dX10_adds_63 rfl ?_
      refine rv_aload_n 0 dX10_adds_64 rfl ?_
      refine rv_getR ff_X10_80 dX10_adds_65 h (fun a5 h => ?_)
      refine rv_iload_n 2 dX10_adds_68 rfl ?_
      refine rv_iaload dX10_adds_69 h (fun v6 h => ?_)
      refine rv_imul dX10_adds_70 ?_
      refine rv_iadd dX10_adds_71 ?_
      refine rv_iastore dX10_adds_72 h (fun w7 h => ?_)
      obtain ⟨v8, ev8, h⟩ := rLetE h
      refine rv_iinc (v := v8) (l2 := [(2, .int v8), (0, .ref x0), (1, .int x1)]) 2 dX10_adds_73 rfl (by rw [ev8]; rfl) rfl rfl ?_
      clear ev8
      refine rv_goto 48 dX10_adds_76 (by decide) ?_
      exact rv_sub [1, 2, 0] rfl (ih v8 w7 h)
set_option maxRecDepth 20000 in
theorem E_X10_adds_2 {r0 : Bool} {w0 : rW}  (x0 : Nat) (x1 : Int32) (w : rW)  {K46 : Option (Bool × rW)} (hK46 : K46 = some (r0, w0) → rEv mX10_adds 1 0 0 46 [(0, .ref x0), (1, .int x1)] [] w (rIs (some (.int (bi r0))) w0)) : ∀ (f : Nat) (x2 : Int32), J_X10_adds_2 x0 x1 w K46 f x2 = some (r0, w0) → rEv mX10_adds 1 0 0 2 [(0, .ref x0), (1, .int x1), (2, .int x2)] [] w (rIs (some (.int (bi r0))) w0) := by
  intro f
  induction f with
  | zero =>
    intro x2 h
    exact absurd (show (none : Option (Bool × rW)) = some (r0, w0) from h) (by simp)
  | succ f ih =>
    intro x2 h
    rw [J_X10_adds_2] at h
    refine rv_iload_n 2 dX10_adds_2 rfl ?_
    refine rv_aload_n 0 dX10_adds_3 rfl ?_
    refine rv_getI ff_X10_110 dX10_adds_4 h (fun v9 h => ?_)
    refine rv_icmp_ge 46 dX10_adds_7 (by decide) (fun c10 => ?_) (fun c10 => ?_)
    · replace h := rIfT h c10
      exact rv_sub [0, 1] rfl (hK46 h)
    · replace h := rIfF h c10
      refine rv_aload_n 0 dX10_adds_10 rfl ?_
      refine rv_getR ff_X10_28 dX10_adds_11 h (fun a11 h => ?_)
      refine rv_iload_n 2 dX10_adds_14 rfl ?_
      refine rv_iaload dX10_adds_15 h (fun v12 h => ?_)
      refine rv_iload_n 1 dX10_adds_16 rfl ?_
      refine rv_aload_n 0 dX10_adds_17 rfl ?_
      refine rv_getR ff_X10_80 dX10_adds_18 h (fun a13 h => ?_)
      refine rv_iload_n 2 dX10_adds_21 rfl ?_
      refine rv_iaload dX10_adds_22 h (fun v14 h => ?_)
      refine rv_imul dX10_adds_23 ?_
      refine rv_iadd dX10_adds_24 ?_
      refine rv_i2l dX10_adds_25 ?_
      refine rv_ldc2 dX10_adds_26 kl_X10_144 ?_
      refine rv_ldc2 dX10_adds_29 kl_X10_146 ?_
      obtain ⟨b16, h15, h⟩ := rBind h
      refine rv_callSr (k3 := 0) (n3 := 0) (st2 := []) (As := [.long (Int32.toInt64 (v12 + (x1 * v14))), .long (-99), .long 99]) caX10_in csX10_in ml_X10_116 dX10_adds_32 rfl (E_X10_in h15) rfl rfl rfl rfl rfl ?_
      clear h15
      refine rv_if_ne 40 dX10_adds_35 (by decide) (fun c17 => ?_) (fun c17 => ?_)
      · replace h := rIfF h c17
        obtain ⟨v18, ev18, h⟩ := rLetE h
        refine rv_iinc (v := v18) (l2 := [(2, .int v18), (0, .ref x0), (1, .int x1)]) 2 dX10_adds_40 rfl (by rw [ev18]; rfl) rfl rfl ?_
        clear ev18
        refine rv_goto 2 dX10_adds_43 (by decide) ?_
        exact rv_sub [1, 2, 0] rfl (ih v18 h)
      · replace h := rIfT h c17
        refine rv_iconst (v := 0) dX10_adds_38 (by decide) ?_
        exact rv_iret .boolean dX10_adds_39 rfl (by decide) (rRetZw (x := 0) h rfl)
set_option maxRecDepth 20000 in
theorem E_X10_adds {x0 : Nat} {x1 : Int32} {r0 : Bool} {w0 : rW} {w : rW} (h : J_X10_adds x0 x1 w = some (r0, w0)) : (∃ fs, w[x0]? = some (cO 10 fs)) ∧ rMet mX10_adds 1 0 0 [.ref x0, .int x1] w (rIs (some (.int (bi r0))) w0) := by
  unfold J_X10_adds at h
  obtain ⟨hrc, h⟩ := rRc_some h
  refine ⟨hrc, ?_⟩
  refine rMet_of (by decide) rfl ?_
  refine rv_iconst (v := 0) dX10_adds_0 (by decide) ?_
  refine rv_istore_n (l2 := [(2, .int 0), (0, .ref x0), (1, .int x1)]) dX10_adds_1 rfl rfl ?_
  obtain ⟨K46, eK46, h⟩ := rLetE h
  have hK46 : K46 = some (r0, w0) → rEv mX10_adds 1 0 0 46 [(0, .ref x0), (1, .int x1)] [] w (rIs (some (.int (bi r0))) w0) := by
    intro h
    rw [eK46] at h
    refine rv_iconst (v := 0) dX10_adds_46 (by decide) ?_
    refine rv_istore_n (l2 := [(2, .int 0), (0, .ref x0), (1, .int x1)]) dX10_adds_47 rfl rfl ?_
    exact rv_sub [1, 2, 0] rfl (E_X10_adds_48 x0 x1 2000 0 w h)
  clear eK46
  exact rv_sub [1, 2, 0] rfl (E_X10_adds_2 x0 x1 w hK46 2000 0 h)
set_option maxRecDepth 20000 in
theorem E_X10_twist {x0 : Nat} {x1 : Int32} {x2 : Int32} {r0 : Int32} {w0 : rW} {w : rW} (h : J_X10_twist x0 x1 x2 w = some (r0, w0)) : (∃ fs, w[x0]? = some (cO 10 fs)) ∧ rMet mX10_twist 3 0 0 [.ref x0, .int x1, .int x2] w (rIs (some (.int r0)) w0) := by
  unfold J_X10_twist at h
  obtain ⟨hrc, h⟩ := rRc_some h
  refine ⟨hrc, ?_⟩
  refine rMet_of (by decide) rfl ?_
  refine rv_aload_n 0 dX10_twist_0 rfl ?_
  refine rv_iload_n 1 dX10_twist_1 rfl ?_
  obtain ⟨b2, w3, h1, h⟩ := rB2_some h
  refine rv_callVr (k3 := 0) (n3 := 0) (st2 := []) caX10_twists cvX10_twists ml_X10_157 dX10_twist_2 rfl (E_X10_twists h1).2 (E_X10_twists h1).1 rfl rfl rfl rfl rfl ?_
  clear h1
  refine rv_if_eq 26 dX10_twist_5 (by decide) (fun c4 => ?_) (fun c4 => ?_)
  · replace h := rIfT h c4
    refine rv_bipush (v := (-2)) dX10_twist_26 (by decide) ?_
    exact rv_iret .int dX10_twist_28 rfl rfl (rRetIw h)
  · replace h := rIfF h c4
    refine rv_iload_n 2 dX10_twist_8 rfl ?_
    refine rv_i2l dX10_twist_9 ?_
    refine rv_ldc2 dX10_twist_10 kl_X10_160 ?_
    refine rv_ldc2 dX10_twist_13 kl_X10_162 ?_
    obtain ⟨b6, h5, h⟩ := rBind h
    refine rv_callSr (k3 := 0) (n3 := 0) (st2 := []) (As := [.long (Int32.toInt64 x2), .long (-9), .long 9]) caX10_in csX10_in ml_X10_116 dX10_twist_16 rfl (E_X10_in h5) rfl rfl rfl rfl rfl ?_
    clear h5
    refine rv_if_eq 26 dX10_twist_19 (by decide) (fun c7 => ?_) (fun c7 => ?_)
    · replace h := rIfT h c7
      refine rv_bipush (v := (-2)) dX10_twist_26 (by decide) ?_
      exact rv_iret .int dX10_twist_28 rfl rfl (rRetIw h)
    · replace h := rIfF h c7
      refine rv_iload_n 2 dX10_twist_22 rfl ?_
      refine rv_if_ne 29 dX10_twist_23 (by decide) (fun c8 => ?_) (fun c8 => ?_)
      · replace h := rIfF h c8
        refine rv_aload_n 0 dX10_twist_29 rfl ?_
        refine rv_iload_n 2 dX10_twist_30 rfl ?_
        obtain ⟨b10, w11, h9, h⟩ := rB2_some h
        refine rv_callVr (k3 := 0) (n3 := 0) (st2 := []) caX10_adds cvX10_adds ml_X10_164 dX10_twist_31 rfl (E_X10_adds h9).2 (E_X10_adds h9).1 rfl rfl rfl rfl rfl ?_
        clear h9
        refine rv_if_eq 44 dX10_twist_34 (by decide) (fun c12 => ?_) (fun c12 => ?_)
        · replace h := rIfT h c12
          refine rv_bipush (v := (-3)) dX10_twist_44 (by decide) ?_
          exact rv_iret .int dX10_twist_46 rfl rfl (rRetIw h)
        · replace h := rIfF h c12
          refine rv_aload_n 0 dX10_twist_37 rfl ?_
          obtain ⟨v14, h13, h⟩ := rBind h
          refine rv_callVr (k3 := 0) (n3 := 0) (st2 := []) caX10_volume cvX10_volume ml_X10_167 dX10_twist_38 rfl (E_X10_volume h13).2 (E_X10_volume h13).1 rfl rfl rfl rfl rfl ?_
          clear h13
          refine rv_goto 46 dX10_twist_41 (by decide) ?_
          exact rv_iret .int dX10_twist_46 rfl rfl (rRetIw h)
      · replace h := rIfT h c8
        refine rv_bipush (v := (-2)) dX10_twist_26 (by decide) ?_
        exact rv_iret .int dX10_twist_28 rfl rfl (rRetIw h)
set_option maxRecDepth 20000 in
theorem E_X10_turn_2 {r0 : Int32} {w0 : rW}  (x0 : Nat)  {K29 : rW → Option (Int32 × rW)} (hK29 : ∀ (w : rW), K29 w = some (r0, w0) → rEv mX10_turn 2 0 0 29 [(0, .ref x0)] [] w (rIs (some (.int r0)) w0)) : ∀ (f : Nat) (x1 : Int32) (w : rW), J_X10_turn_2 x0 K29 f x1 w = some (r0, w0) → rEv mX10_turn 2 0 0 2 [(0, .ref x0), (1, .int x1)] [] w (rIs (some (.int r0)) w0) := by
  intro f
  induction f with
  | zero =>
    intro x1 w h
    exact absurd (show (none : Option (Int32 × rW)) = some (r0, w0) from h) (by simp)
  | succ f ih =>
    intro x1 w h
    rw [J_X10_turn_2] at h
    refine rv_iload_n 1 dX10_turn_2 rfl ?_
    refine rv_aload_n 0 dX10_turn_3 rfl ?_
    refine rv_getI ff_X10_110 dX10_turn_4 h (fun v4 h => ?_)
    refine rv_icmp_ge 29 dX10_turn_7 (by decide) (fun c5 => ?_) (fun c5 => ?_)
    · replace h := rIfT h c5
      exact rv_sub [0] rfl (hK29 w h)
    · replace h := rIfF h c5
      refine rv_aload_n 0 dX10_turn_10 rfl ?_
      refine rv_getR ff_X10_28 dX10_turn_11 h (fun a6 h => ?_)
      refine rv_iload_n 1 dX10_turn_14 rfl ?_
      refine rv_aload_n 0 dX10_turn_15 rfl ?_
      refine rv_getR ff_X10_28 dX10_turn_16 h (fun a7 h => ?_)
      refine rv_iload_n 1 dX10_turn_19 rfl ?_
      refine rv_iaload dX10_turn_20 h (fun v8 h => ?_)
      refine rv_ineg dX10_turn_21 ?_
      refine rv_iastore dX10_turn_22 h (fun w9 h => ?_)
      obtain ⟨v10, ev10, h⟩ := rLetE h
      refine rv_iinc (v := v10) (l2 := [(1, .int v10), (0, .ref x0)]) 1 dX10_turn_23 rfl (by rw [ev10]; rfl) rfl rfl ?_
      clear ev10
      refine rv_goto 2 dX10_turn_26 (by decide) ?_
      exact rv_sub [1, 0] rfl (ih v10 w9 h)
set_option maxRecDepth 20000 in
theorem E_X10_turn {x0 : Nat} {r0 : Int32} {w0 : rW} {w : rW} (h : J_X10_turn x0 w = some (r0, w0)) : (∃ fs, w[x0]? = some (cO 10 fs)) ∧ rMet mX10_turn 2 0 0 [.ref x0] w (rIs (some (.int r0)) w0) := by
  unfold J_X10_turn at h
  obtain ⟨hrc, h⟩ := rRc_some h
  refine ⟨hrc, ?_⟩
  refine rMet_of (by decide) rfl ?_
  refine rv_iconst (v := 0) dX10_turn_0 (by decide) ?_
  refine rv_istore_n (l2 := [(1, .int 0), (0, .ref x0)]) dX10_turn_1 rfl rfl ?_
  obtain ⟨K29, eK29, h⟩ := rLetE h
  have hK29 : ∀ (w : rW), K29 w = some (r0, w0) → rEv mX10_turn 2 0 0 29 [(0, .ref x0)] [] w (rIs (some (.int r0)) w0) := by
    intro w1 h
    rw [eK29] at h
    refine rv_aload_n 0 dX10_turn_29 rfl ?_
    obtain ⟨v3, h2, h⟩ := rBind h
    refine rv_callVr (k3 := 0) (n3 := 0) (st2 := []) caX10_volume cvX10_volume ml_X10_167 dX10_turn_30 rfl (E_X10_volume h2).2 (E_X10_volume h2).1 rfl rfl rfl rfl rfl ?_
    clear h2
    exact rv_iret .int dX10_turn_33 rfl rfl (rRetIw h)
  clear eK29
  exact rv_sub [1, 0] rfl (E_X10_turn_2 x0 hK29 2000 0 w h)
set_option maxRecDepth 20000 in
theorem E_X10_clear_4 {r0 : Int32} {w0 : rW}  (x0 : Nat)   : ∀ (f : Nat) (x1 : Int32) (x2 : Int32) (w : rW), J_X10_clear_4 x0 f x1 x2 w = some (r0, w0) → rEv mX10_clear 0 0 0 4 [(0, .ref x0), (1, .int x1), (2, .int x2)] [] w (rIs (some (.int r0)) w0) := by
  intro f
  induction f with
  | zero =>
    intro x1 x2 w h
    exact absurd (show (none : Option (Int32 × rW)) = some (r0, w0) from h) (by simp)
  | succ f ih =>
    intro x1 x2 w h
    rw [J_X10_clear_4] at h
    refine rv_iload_n 2 dX10_clear_4 rfl ?_
    refine rv_aload_n 0 dX10_clear_5 rfl ?_
    refine rv_getI ff_X10_110 dX10_clear_6 h (fun v1 h => ?_)
    refine rv_icmp_ge 37 dX10_clear_9 (by decide) (fun c2 => ?_) (fun c2 => ?_)
    · replace h := rIfT h c2
      refine rv_iload_n 1 dX10_clear_37 rfl ?_
      exact rv_iret .int dX10_clear_38 rfl rfl (rRetIw h)
    · replace h := rIfF h c2
      refine rv_aload_n 0 dX10_clear_12 rfl ?_
      refine rv_getR ff_X10_28 dX10_clear_13 h (fun a3 h => ?_)
      refine rv_iload_n 2 dX10_clear_16 rfl ?_
      refine rv_iaload dX10_clear_17 h (fun v4 h => ?_)
      obtain ⟨K24, eK24, h⟩ := rLetE h
      have hK24 : ∀ (y1 : Int32), K24 y1 = some (r0, w0) → rEv mX10_clear 0 0 0 24 [(0, .ref x0), (1, .int y1), (2, .int x2)] [] w (rIs (some (.int r0)) w0) := by
        intro x1_5 h
        rw [eK24] at h
        refine rv_aload_n 0 dX10_clear_24 rfl ?_
        refine rv_getR ff_X10_28 dX10_clear_25 h (fun a6 h => ?_)
        refine rv_iload_n 2 dX10_clear_28 rfl ?_
        refine rv_iconst (v := 0) dX10_clear_29 (by decide) ?_
        refine rv_iastore dX10_clear_30 h (fun w7 h => ?_)
        obtain ⟨v8, ev8, h⟩ := rLetE h
        refine rv_iinc (v := v8) (l2 := [(2, .int v8), (0, .ref x0), (1, .int x1_5)]) 2 dX10_clear_31 rfl (by rw [ev8]; rfl) rfl rfl ?_
        clear ev8
        refine rv_goto 4 dX10_clear_34 (by decide) ?_
        exact rv_sub [1, 2, 0] rfl (ih x1_5 v8 w7 h)
      clear eK24
      refine rv_if_eq 24 dX10_clear_18 (by decide) (fun c9 => ?_) (fun c9 => ?_)
      · replace h := rIfT h c9
        exact rv_sub [0, 1, 2] rfl (hK24 x1 h)
      · replace h := rIfF h c9
        obtain ⟨v10, ev10, h⟩ := rLetE h
        refine rv_iinc (v := v10) (l2 := [(1, .int v10), (0, .ref x0), (2, .int x2)]) 1 dX10_clear_21 rfl (by rw [ev10]; rfl) rfl rfl ?_
        clear ev10
        exact rv_sub [1, 0, 2] rfl (hK24 v10 h)
set_option maxRecDepth 20000 in
theorem E_X10_clear {x0 : Nat} {r0 : Int32} {w0 : rW} {w : rW} (h : J_X10_clear x0 w = some (r0, w0)) : (∃ fs, w[x0]? = some (cO 10 fs)) ∧ rMet mX10_clear 0 0 0 [.ref x0] w (rIs (some (.int r0)) w0) := by
  unfold J_X10_clear at h
  obtain ⟨hrc, h⟩ := rRc_some h
  refine ⟨hrc, ?_⟩
  refine rMet_of (by decide) rfl ?_
  refine rv_iconst (v := 0) dX10_clear_0 (by decide) ?_
  refine rv_istore_n (l2 := [(1, .int 0), (0, .ref x0)]) dX10_clear_1 rfl rfl ?_
  refine rv_iconst (v := 0) dX10_clear_2 (by decide) ?_
  refine rv_istore_n (l2 := [(2, .int 0), (1, .int 0), (0, .ref x0)]) dX10_clear_3 rfl rfl ?_
  exact rv_sub [2, 1, 0] rfl (E_X10_clear_4 x0 2000 0 0 w h)
set_option maxRecDepth 20000 in
theorem E_X10_put {x0 : Nat} {x1 : Int32} {x2 : Int32} {r0 : Int32} {w0 : rW} {w : rW} (h : J_X10_put x0 x1 x2 w = some (r0, w0)) : (∃ fs, w[x0]? = some (cO 10 fs)) ∧ rMet mX10_put 2 0 0 [.ref x0, .int x1, .int x2] w (rIs (some (.int r0)) w0) := by
  unfold J_X10_put at h
  obtain ⟨hrc, h⟩ := rRc_some h
  refine ⟨hrc, ?_⟩
  refine rMet_of (by decide) rfl ?_
  refine rv_aload_n 0 dX10_put_0 rfl ?_
  refine rv_iload_n 1 dX10_put_1 rfl ?_
  obtain ⟨b2, h1, h⟩ := rBind h
  refine rv_callVr (k3 := 0) (n3 := 0) (st2 := []) caX10_isBlock cvX10_isBlock ml_X10_140 dX10_put_2 rfl (E_X10_isBlock h1).2 (E_X10_isBlock h1).1 rfl rfl rfl rfl rfl ?_
  clear h1
  refine rv_if_ne 10 dX10_put_5 (by decide) (fun c3 => ?_) (fun c3 => ?_)
  · replace h := rIfF h c3
    refine rv_iload_n 2 dX10_put_10 rfl ?_
    refine rv_i2l dX10_put_11 ?_
    refine rv_lconst (v := 0) dX10_put_12 (by decide) ?_
    refine rv_lconst (v := 1) dX10_put_13 (by decide) ?_
    obtain ⟨b5, h4, h⟩ := rBind h
    refine rv_callSr (k3 := 0) (n3 := 0) (st2 := []) (As := [.long (Int32.toInt64 x2), .long 0, .long 1]) caX10_in csX10_in ml_X10_116 dX10_put_14 rfl (E_X10_in h4) rfl rfl rfl rfl rfl ?_
    clear h4
    refine rv_if_ne 23 dX10_put_17 (by decide) (fun c6 => ?_) (fun c6 => ?_)
    · replace h := rIfF h c6
      refine rv_aload_n 0 dX10_put_23 rfl ?_
      refine rv_getR ff_X10_31 dX10_put_24 h (fun a7 h => ?_)
      refine rv_iload_n 1 dX10_put_27 rfl ?_
      refine rv_iaload dX10_put_28 h (fun v8 h => ?_)
      refine rv_istore_n (l2 := [(3, .int v8), (0, .ref x0), (1, .int x1), (2, .int x2)]) dX10_put_29 rfl rfl ?_
      refine rv_aload_n 1 dX10_put_30 rfl ?_
      refine rv_getR ff_X10_31 dX10_put_31 h (fun a9 h => ?_)
      refine rv_iload_n 2 dX10_put_34 rfl ?_
      refine rv_iload_n 3 dX10_put_35 rfl ?_
      refine rv_iastore dX10_put_36 h (fun w10 h => ?_)
      refine rv_iload_n 0 dX10_put_37 rfl ?_
      exact rv_iret .int dX10_put_38 rfl rfl (rRetIw h)
    · replace h := rIfT h c6
      refine rv_bipush (v := (-2)) dX10_put_20 (by decide) ?_
      exact rv_iret .int dX10_put_22 rfl rfl (rRetIw h)
  · replace h := rIfT h c3
    refine rv_iconst (v := (-1)) dX10_put_8 (by decide) ?_
    exact rv_iret .int dX10_put_9 rfl rfl (rRetIw h)
set_option maxRecDepth 20000 in
theorem E_X10_inDesign_4 {r0 : Int32}  (x0 : Nat) (w : rW)   : ∀ (f : Nat) (x1 : Int32) (x2 : Int32), J_X10_inDesign_4 x0 w f x1 x2 = some r0 → rEv mX10_inDesign 0 0 0 4 [(0, .ref x0), (1, .int x1), (2, .int x2)] [] w (rIs (some (.int r0)) w) := by
  intro f
  induction f with
  | zero =>
    intro x1 x2 h
    exact absurd (show (none : Option Int32) = some r0 from h) (by simp)
  | succ f ih =>
    intro x1 x2 h
    rw [J_X10_inDesign_4] at h
    refine rv_iload_n 2 dX10_inDesign_4 rfl ?_
    refine rv_aload_n 0 dX10_inDesign_5 rfl ?_
    refine rv_getI ff_X10_110 dX10_inDesign_6 h (fun v1 h => ?_)
    refine rv_icmp_ge 27 dX10_inDesign_9 (by decide) (fun c2 => ?_) (fun c2 => ?_)
    · replace h := rIfT h c2
      refine rv_iload_n 1 dX10_inDesign_27 rfl ?_
      exact rv_iret .int dX10_inDesign_28 rfl rfl (rRetIp h)
    · replace h := rIfF h c2
      refine rv_iload_n 1 dX10_inDesign_12 rfl ?_
      refine rv_aload_n 0 dX10_inDesign_13 rfl ?_
      refine rv_getR ff_X10_31 dX10_inDesign_14 h (fun a3 h => ?_)
      refine rv_iload_n 2 dX10_inDesign_17 rfl ?_
      refine rv_iaload dX10_inDesign_18 h (fun v4 h => ?_)
      refine rv_iadd dX10_inDesign_19 ?_
      refine rv_letI h (fun v5 h => ?_)
      refine rv_istore_n (l2 := [(1, .int v5), (0, .ref x0), (2, .int x2)]) dX10_inDesign_20 rfl rfl ?_
      obtain ⟨v6, ev6, h⟩ := rLetE h
      refine rv_iinc (v := v6) (l2 := [(2, .int v6), (1, .int v5), (0, .ref x0)]) 2 dX10_inDesign_21 rfl (by rw [ev6]; rfl) rfl rfl ?_
      clear ev6
      refine rv_goto 4 dX10_inDesign_24 (by decide) ?_
      exact rv_sub [2, 1, 0] rfl (ih v5 v6 h)
set_option maxRecDepth 20000 in
theorem E_X10_inDesign {x0 : Nat} {r0 : Int32} {w : rW} (h : J_X10_inDesign x0 w = some r0) : (∃ fs, w[x0]? = some (cO 10 fs)) ∧ rMet mX10_inDesign 0 0 0 [.ref x0] w (rIs (some (.int r0)) w) := by
  unfold J_X10_inDesign at h
  obtain ⟨hrc, h⟩ := rRc_some h
  refine ⟨hrc, ?_⟩
  refine rMet_of (by decide) rfl ?_
  refine rv_iconst (v := 0) dX10_inDesign_0 (by decide) ?_
  refine rv_istore_n (l2 := [(1, .int 0), (0, .ref x0)]) dX10_inDesign_1 rfl rfl ?_
  refine rv_iconst (v := 0) dX10_inDesign_2 (by decide) ?_
  refine rv_istore_n (l2 := [(2, .int 0), (1, .int 0), (0, .ref x0)]) dX10_inDesign_3 rfl rfl ?_
  exact rv_sub [2, 1, 0] rfl (E_X10_inDesign_4 x0 w 2000 0 0 h)
set_option maxRecDepth 20000 in
theorem E_X10_sumOf_4 {r0 : Int32}  (x0 : Nat) (x1 : Int32) (w : rW)   : ∀ (f : Nat) (x2 : Int32) (x3 : Int32), J_X10_sumOf_4 x0 x1 w f x2 x3 = some r0 → rEv mX10_sumOf 0 0 0 4 [(0, .ref x0), (1, .int x1), (2, .int x2), (3, .int x3)] [] w (rIs (some (.int r0)) w) := by
  intro f
  induction f with
  | zero =>
    intro x2 x3 h
    exact absurd (show (none : Option Int32) = some r0 from h) (by simp)
  | succ f ih =>
    intro x2 x3 h
    rw [J_X10_sumOf_4] at h
    refine rv_iload_n 3 dX10_sumOf_4 rfl ?_
    refine rv_aload_n 0 dX10_sumOf_5 rfl ?_
    refine rv_getI ff_X10_110 dX10_sumOf_6 h (fun v1 h => ?_)
    refine rv_icmp_ge 39 dX10_sumOf_9 (by decide) (fun c2 => ?_) (fun c2 => ?_)
    · replace h := rIfT h c2
      refine rv_iload_n 2 dX10_sumOf_39 rfl ?_
      exact rv_iret .int dX10_sumOf_40 rfl rfl (rRetIp h)
    · replace h := rIfF h c2
      refine rv_aload_n 0 dX10_sumOf_12 rfl ?_
      refine rv_getR ff_X10_21 dX10_sumOf_13 h (fun a3 h => ?_)
      refine rv_iload_n 3 dX10_sumOf_16 rfl ?_
      refine rv_iaload dX10_sumOf_17 h (fun v4 h => ?_)
      refine rv_iload_n 1 dX10_sumOf_18 rfl ?_
      refine rv_iand dX10_sumOf_19 ?_
      refine rv_iload_n 1 dX10_sumOf_20 rfl ?_
      obtain ⟨K33, eK33, h⟩ := rLetE h
      have hK33 : ∀ (y2 : Int32), K33 y2 = some r0 → rEv mX10_sumOf 0 0 0 33 [(0, .ref x0), (1, .int x1), (2, .int y2), (3, .int x3)] [] w (rIs (some (.int r0)) w) := by
        intro x2_5 h
        rw [eK33] at h
        obtain ⟨v6, ev6, h⟩ := rLetE h
        refine rv_iinc (v := v6) (l2 := [(3, .int v6), (0, .ref x0), (1, .int x1), (2, .int x2_5)]) 3 dX10_sumOf_33 rfl (by rw [ev6]; rfl) rfl rfl ?_
        clear ev6
        refine rv_goto 4 dX10_sumOf_36 (by decide) ?_
        exact rv_sub [1, 2, 3, 0] rfl (ih x2_5 v6 h)
      clear eK33
      refine rv_icmp_ne 33 dX10_sumOf_21 (by decide) (fun c7 => ?_) (fun c7 => ?_)
      · replace h := rIfF h c7
        exact rv_sub [0, 1, 2, 3] rfl (hK33 x2 h)
      · replace h := rIfT h c7
        refine rv_iload_n 2 dX10_sumOf_24 rfl ?_
        refine rv_aload_n 0 dX10_sumOf_25 rfl ?_
        refine rv_getR ff_X10_28 dX10_sumOf_26 h (fun a8 h => ?_)
        refine rv_iload_n 3 dX10_sumOf_29 rfl ?_
        refine rv_iaload dX10_sumOf_30 h (fun v9 h => ?_)
        refine rv_iadd dX10_sumOf_31 ?_
        refine rv_letI h (fun v10 h => ?_)
        refine rv_istore_n (l2 := [(2, .int v10), (0, .ref x0), (1, .int x1), (3, .int x3)]) dX10_sumOf_32 rfl rfl ?_
        exact rv_sub [1, 2, 0, 3] rfl (hK33 v10 h)
set_option maxRecDepth 20000 in
theorem E_X10_sumOf {x0 : Nat} {x1 : Int32} {r0 : Int32} {w : rW} (h : J_X10_sumOf x0 x1 w = some r0) : (∃ fs, w[x0]? = some (cO 10 fs)) ∧ rMet mX10_sumOf 0 0 0 [.ref x0, .int x1] w (rIs (some (.int r0)) w) := by
  unfold J_X10_sumOf at h
  obtain ⟨hrc, h⟩ := rRc_some h
  refine ⟨hrc, ?_⟩
  refine rMet_of (by decide) rfl ?_
  refine rv_iconst (v := 0) dX10_sumOf_0 (by decide) ?_
  refine rv_istore_n (l2 := [(2, .int 0), (0, .ref x0), (1, .int x1)]) dX10_sumOf_1 rfl rfl ?_
  refine rv_iconst (v := 0) dX10_sumOf_2 (by decide) ?_
  refine rv_istore_n (l2 := [(3, .int 0), (2, .int 0), (0, .ref x0), (1, .int x1)]) dX10_sumOf_3 rfl rfl ?_
  exact rv_sub [2, 3, 1, 0] rfl (E_X10_sumOf_4 x0 x1 w 2000 0 0 h)
set_option maxRecDepth 20000 in
theorem E_X10_isTrade_2 {r0 : Bool}  (x0 : Nat) (w : rW)   : ∀ (f : Nat) (x1 : Int32), J_X10_isTrade_2 x0 w f x1 = some r0 → rEv mX10_isTrade 2 0 0 2 [(0, .ref x0), (1, .int x1)] [] w (rIs (some (.int (bi r0))) w) := by
  intro f
  induction f with
  | zero =>
    intro x1 h
    exact absurd (show (none : Option Bool) = some r0 from h) (by simp)
  | succ f ih =>
    intro x1 h
    rw [J_X10_isTrade_2] at h
    refine rv_iload_n 1 dX10_isTrade_2 rfl ?_
    refine rv_iconst (v := 1) dX10_isTrade_3 (by decide) ?_
    refine rv_aload_n 0 dX10_isTrade_4 rfl ?_
    refine rv_getI ff_X10_9 dX10_isTrade_5 h (fun v1 h => ?_)
    refine rv_ishl dX10_isTrade_8 ?_
    refine rv_icmp_ge 39 dX10_isTrade_9 (by decide) (fun c2 => ?_) (fun c2 => ?_)
    · replace h := rIfT h c2
      refine rv_iconst (v := 1) dX10_isTrade_39 (by decide) ?_
      exact rv_iret .boolean dX10_isTrade_40 rfl (by decide) (rRetZp (x := 1) h rfl)
    · replace h := rIfF h c2
      refine rv_iload_n 1 dX10_isTrade_12 rfl ?_
      obtain ⟨v4, h3, h⟩ := rBind h
      refine rv_callSr (k3 := 0) (n3 := 0) (st2 := []) (As := [.int x1]) caX10_size csX10_size ml_X10_113 dX10_isTrade_13 rfl (E_X10_size h3) rfl rfl rfl rfl rfl ?_
      clear h3
      refine rv_aload_n 0 dX10_isTrade_16 rfl ?_
      refine rv_getI ff_X10_18 dX10_isTrade_17 h (fun v5 h => ?_)
      obtain ⟨K33, eK33, h⟩ := rLetE h
      have hK33 : K33 = some r0 → rEv mX10_isTrade 2 0 0 33 [(0, .ref x0), (1, .int x1)] [] w (rIs (some (.int (bi r0))) w) := by
        intro h
        rw [eK33] at h
        obtain ⟨v6, ev6, h⟩ := rLetE h
        refine rv_iinc (v := v6) (l2 := [(1, .int v6), (0, .ref x0)]) 1 dX10_isTrade_33 rfl (by rw [ev6]; rfl) rfl rfl ?_
        clear ev6
        refine rv_goto 2 dX10_isTrade_36 (by decide) ?_
        exact rv_sub [1, 0] rfl (ih v6 h)
      clear eK33
      refine rv_icmp_ne 33 dX10_isTrade_20 (by decide) (fun c7 => ?_) (fun c7 => ?_)
      · replace h := rIfF h c7
        exact rv_sub [0, 1] rfl (hK33 h)
      · replace h := rIfT h c7
        refine rv_aload_n 0 dX10_isTrade_23 rfl ?_
        refine rv_iload_n 1 dX10_isTrade_24 rfl ?_
        obtain ⟨v9, h8, h⟩ := rBind h
        refine rv_callVr (k3 := 0) (n3 := 0) (st2 := []) caX10_sumOf cvX10_sumOf ml_X10_170 dX10_isTrade_25 rfl (E_X10_sumOf h8).2 (E_X10_sumOf h8).1 rfl rfl rfl rfl rfl ?_
        clear h8
        refine rv_if_eq 33 dX10_isTrade_28 (by decide) (fun c10 => ?_) (fun c10 => ?_)
        · replace h := rIfT h c10
          exact rv_sub [0, 1] rfl (hK33 h)
        · replace h := rIfF h c10
          refine rv_iconst (v := 0) dX10_isTrade_31 (by decide) ?_
          exact rv_iret .boolean dX10_isTrade_32 rfl (by decide) (rRetZp (x := 0) h rfl)
set_option maxRecDepth 20000 in
theorem E_X10_isTrade {x0 : Nat} {r0 : Bool} {w : rW} (h : J_X10_isTrade x0 w = some r0) : (∃ fs, w[x0]? = some (cO 10 fs)) ∧ rMet mX10_isTrade 2 0 0 [.ref x0] w (rIs (some (.int (bi r0))) w) := by
  unfold J_X10_isTrade at h
  obtain ⟨hrc, h⟩ := rRc_some h
  refine ⟨hrc, ?_⟩
  refine rMet_of (by decide) rfl ?_
  refine rv_iconst (v := 0) dX10_isTrade_0 (by decide) ?_
  refine rv_istore_n (l2 := [(1, .int 0), (0, .ref x0)]) dX10_isTrade_1 rfl rfl ?_
  exact rv_sub [1, 0] rfl (E_X10_isTrade_2 x0 w 2000 0 h)
set_option maxRecDepth 20000 in
theorem E_X10_isPlain_2 {r0 : Bool}  (x0 : Nat) (w : rW)   : ∀ (f : Nat) (x1 : Int32), J_X10_isPlain_2 x0 w f x1 = some r0 → rEv mX10_isPlain 1 0 0 2 [(0, .ref x0), (1, .int x1)] [] w (rIs (some (.int (bi r0))) w) := by
  intro f
  induction f with
  | zero =>
    intro x1 h
    exact absurd (show (none : Option Bool) = some r0 from h) (by simp)
  | succ f ih =>
    intro x1 h
    rw [J_X10_isPlain_2] at h
    refine rv_iload_n 1 dX10_isPlain_2 rfl ?_
    refine rv_aload_n 0 dX10_isPlain_3 rfl ?_
    refine rv_getI ff_X10_110 dX10_isPlain_4 h (fun v1 h => ?_)
    refine rv_icmp_ge 35 dX10_isPlain_7 (by decide) (fun c2 => ?_) (fun c2 => ?_)
    · replace h := rIfT h c2
      refine rv_iconst (v := 1) dX10_isPlain_35 (by decide) ?_
      exact rv_iret .boolean dX10_isPlain_36 rfl (by decide) (rRetZp (x := 1) h rfl)
    · replace h := rIfF h c2
      refine rv_aload_n 0 dX10_isPlain_10 rfl ?_
      refine rv_getR ff_X10_28 dX10_isPlain_11 h (fun a3 h => ?_)
      refine rv_iload_n 1 dX10_isPlain_14 rfl ?_
      refine rv_iaload dX10_isPlain_15 h (fun v4 h => ?_)
      refine rv_i2l dX10_isPlain_16 ?_
      refine rv_ldc2 dX10_isPlain_17 kl_X10_173 ?_
      refine rv_lconst (v := 1) dX10_isPlain_20 (by decide) ?_
      obtain ⟨b6, h5, h⟩ := rBind h
      refine rv_callSr (k3 := 0) (n3 := 0) (st2 := []) (As := [.long (Int32.toInt64 v4), .long (-1), .long 1]) caX10_in csX10_in ml_X10_116 dX10_isPlain_21 rfl (E_X10_in h5) rfl rfl rfl rfl rfl ?_
      clear h5
      refine rv_if_ne 29 dX10_isPlain_24 (by decide) (fun c7 => ?_) (fun c7 => ?_)
      · replace h := rIfF h c7
        obtain ⟨v8, ev8, h⟩ := rLetE h
        refine rv_iinc (v := v8) (l2 := [(1, .int v8), (0, .ref x0)]) 1 dX10_isPlain_29 rfl (by rw [ev8]; rfl) rfl rfl ?_
        clear ev8
        refine rv_goto 2 dX10_isPlain_32 (by decide) ?_
        exact rv_sub [1, 0] rfl (ih v8 h)
      · replace h := rIfT h c7
        refine rv_iconst (v := 0) dX10_isPlain_27 (by decide) ?_
        exact rv_iret .boolean dX10_isPlain_28 rfl (by decide) (rRetZp (x := 0) h rfl)
set_option maxRecDepth 20000 in
theorem E_X10_isPlain {x0 : Nat} {r0 : Bool} {w : rW} (h : J_X10_isPlain x0 w = some r0) : (∃ fs, w[x0]? = some (cO 10 fs)) ∧ rMet mX10_isPlain 1 0 0 [.ref x0] w (rIs (some (.int (bi r0))) w) := by
  unfold J_X10_isPlain at h
  obtain ⟨hrc, h⟩ := rRc_some h
  refine ⟨hrc, ?_⟩
  refine rMet_of (by decide) rfl ?_
  refine rv_iconst (v := 0) dX10_isPlain_0 (by decide) ?_
  refine rv_istore_n (l2 := [(1, .int 0), (0, .ref x0)]) dX10_isPlain_1 rfl rfl ?_
  exact rv_sub [1, 0] rfl (E_X10_isPlain_2 x0 w 2000 0 h)

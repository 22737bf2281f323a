set_option maxRecDepth 20000 in
theorem E_X5_becomeEmpty {x0 : Nat} {w0 : rW} {w : rW} (h : J_X5_becomeEmpty x0 w = some w0) : (∃ fs, w[x0]? = some (cO 5 fs)) ∧ rMet mX5_becomeEmpty 1 0 0 [.ref x0] w (rIs none w0) := by
  unfold J_X5_becomeEmpty at h
  obtain ⟨hrc, h⟩ := rRc_some h
  refine ⟨hrc, ?_⟩
  refine rMet_of (by decide) rfl ?_
  refine rv_aload_n 0 dX5_becomeEmpty_0 rfl ?_
  obtain ⟨w2, h1, h⟩ := rBind h
  refine rv_callVv (k3 := 0) (n3 := 0) (st2 := []) caX5_clearCounts cvX5_clearCounts ml_X5_26 dX5_becomeEmpty_1 rfl (E_X5_clearCounts h1).2 (E_X5_clearCounts h1).1 rfl rfl rfl rfl rfl ?_
  clear h1
  refine rv_aload_n 0 dX5_becomeEmpty_4 rfl ?_
  refine rv_lconst (v := 0) dX5_becomeEmpty_5 (by decide) ?_
  refine rv_putJ ff_X5_15 (fp_X5_2 _) dX5_becomeEmpty_6 h (fun w3 h => ?_)
  refine rv_aload_n 0 dX5_becomeEmpty_9 rfl ?_
  refine rv_lconst (v := 0) dX5_becomeEmpty_10 (by decide) ?_
  refine rv_putJ ff_X5_19 (fp_X5_3 _) dX5_becomeEmpty_11 h (fun w4 h => ?_)
  exact rv_vret dX5_becomeEmpty_14 rfl (rRetV h)
set_option maxRecDepth 20000 in
theorem E_X5_copyFrom {x0 : Nat} {x1 : Nat} {w0 : rW} {w : rW} (h : J_X5_copyFrom x0 x1 w = some w0) : (∃ fs, w[x0]? = some (cO 5 fs)) ∧ rMet mX5_copyFrom 1 0 0 [.ref x0, .ref x1] w (rIs none w0) := by
  unfold J_X5_copyFrom at h
  obtain ⟨hrc, h⟩ := rRc_some h
  refine ⟨hrc, ?_⟩
  refine rMet_of (by decide) rfl ?_
  refine rv_aload_n 1 dX5_copyFrom_0 rfl ?_
  refine rv_getR ff_X5_9 dX5_copyFrom_1 h (fun a1 h => ?_)
  refine rv_iconst (v := 0) dX5_copyFrom_4 (by decide) ?_
  refine rv_aload_n 0 dX5_copyFrom_5 rfl ?_
  refine rv_getR ff_X5_9 dX5_copyFrom_6 h (fun a2 h => ?_)
  refine rv_iconst (v := 0) dX5_copyFrom_9 (by decide) ?_
  refine rv_bipush (v := 56) dX5_copyFrom_10 (by decide) ?_
  refine rv_copyI ml_X5_29 nt_J10_arraycopy sm_J10_arraycopy in_J10 dX5_copyFrom_12 rfl rfl h (fun w3 h => ?_)
  refine rv_aload_n 0 dX5_copyFrom_15 rfl ?_
  refine rv_aload_n 1 dX5_copyFrom_16 rfl ?_
  refine rv_getJ ff_X5_15 dX5_copyFrom_17 h (fun v4 h => ?_)
  refine rv_putJ ff_X5_15 (fp_X5_2 _) dX5_copyFrom_20 h (fun w5 h => ?_)
  refine rv_aload_n 0 dX5_copyFrom_23 rfl ?_
  refine rv_aload_n 1 dX5_copyFrom_24 rfl ?_
  refine rv_getJ ff_X5_19 dX5_copyFrom_25 h (fun v6 h => ?_)
  refine rv_putJ ff_X5_19 (fp_X5_3 _) dX5_copyFrom_28 h (fun w7 h => ?_)
  exact rv_vret dX5_copyFrom_31 rfl (rRetV h)
set_option maxRecDepth 20000 in
theorem E_X5_changeSigns_2 {w0 : rW}  (x0 : Nat)   : ∀ (f : Nat) (x1 : Int32) (w : rW), J_X5_changeSigns_2 x0 f x1 w = some w0 → rEv mX5_changeSigns 0 0 0 2 [(0, .ref x0), (1, .int x1)] [] w (rIs none w0) := by
  intro f
  induction f with
  | zero =>
    intro x1 w h
    exact absurd (show (none : Option rW) = some w0 from h) (by simp)
  | succ f ih =>
    intro x1 w h
    rw [J_X5_changeSigns_2] at h
    refine rv_iload_n 1 dX5_changeSigns_2 rfl ?_
    refine rv_aload_n 0 dX5_changeSigns_3 rfl ?_
    refine rv_getR ff_X5_22 dX5_changeSigns_4 h (fun a1 h => ?_)
    refine rv_getI ff_X5_35 dX5_changeSigns_7 h (fun v2 h => ?_)
    refine rv_icmp_ge 32 dX5_changeSigns_10 (by decide) (fun c3 => ?_) (fun c3 => ?_)
    · replace h := rIfT h c3
      exact rv_vret dX5_changeSigns_32 rfl (rRetV h)
    · replace h := rIfF h c3
      refine rv_aload_n 0 dX5_changeSigns_13 rfl ?_
      refine rv_getR ff_X5_9 dX5_changeSigns_14 h (fun a4 h => ?_)
      refine rv_iload_n 1 dX5_changeSigns_17 rfl ?_
      refine rv_aload_n 0 dX5_changeSigns_18 rfl ?_
      refine rv_getR ff_X5_9 dX5_changeSigns_19 h (fun a5 h => ?_)
      refine rv_iload_n 1 dX5_changeSigns_22 rfl ?_
      refine rv_iaload dX5_changeSigns_23 h (fun v6 h => ?_)
      refine rv_ineg dX5_changeSigns_24 ?_
      refine rv_iastore dX5_changeSigns_25 h (fun w7 h => ?_)
      obtain ⟨v8, ev8, h⟩ := rLetE h
      refine rv_iinc (v := v8) (l2 := [(1, .int v8), (0, .ref x0)]) 1 dX5_changeSigns_26 rfl (by rw [ev8]; rfl) rfl rfl ?_
      clear ev8
      refine rv_goto 2 dX5_changeSigns_29 (by decide) ?_
      exact rv_sub [1, 0] rfl (ih v8 w7 h)
set_option maxRecDepth 20000 in
theorem E_X5_changeSigns {x0 : Nat} {w0 : rW} {w : rW} (h : J_X5_changeSigns x0 w = some w0) : (∃ fs, w[x0]? = some (cO 5 fs)) ∧ rMet mX5_changeSigns 0 0 0 [.ref x0] w (rIs none w0) := by
  unfold J_X5_changeSigns at h
  obtain ⟨hrc, h⟩ := rRc_some h
  refine ⟨hrc, ?_⟩
  refine rMet_of (by decide) rfl ?_
  refine rv_iconst (v := 0) dX5_changeSigns_0 (by decide) ?_
  refine rv_istore_n (l2 := [(1, .int 0), (0, .ref x0)]) dX5_changeSigns_1 rfl rfl ?_
  exact rv_sub [1, 0] rfl (E_X5_changeSigns_2 x0 2000 0 w h)
set_option maxRecDepth 20000 in
theorem E_X5_toggle {x0 : Nat} {x1 : Int32} {w0 : rW} {w : rW} (h : J_X5_toggle x0 x1 w = some w0) : (∃ fs, w[x0]? = some (cO 5 fs)) ∧ rMet mX5_toggle 0 0 0 [.ref x0, .int x1] w (rIs none w0) := by
  unfold J_X5_toggle at h
  obtain ⟨hrc, h⟩ := rRc_some h
  refine ⟨hrc, ?_⟩
  refine rMet_of (by decide) rfl ?_
  refine rv_aload_n 0 dX5_toggle_0 rfl ?_
  refine rv_dup dX5_toggle_1 rfl ?_
  refine rv_getJ ff_X5_15 dX5_toggle_2 h (fun v1 h => ?_)
  refine rv_lconst (v := 1) dX5_toggle_5 (by decide) ?_
  refine rv_iload_n 1 dX5_toggle_6 rfl ?_
  refine rv_lshl dX5_toggle_7 ?_
  refine rv_lxor dX5_toggle_8 ?_
  refine rv_putJ ff_X5_15 (fp_X5_2 _) dX5_toggle_9 h (fun w2 h => ?_)
  exact rv_vret dX5_toggle_12 rfl (rRetV h)
set_option maxRecDepth 20000 in
theorem E_X9_isCount {x0 : Int32} {r0 : Bool} {w : rW} (h : J_X9_isCount x0 w = some r0) : rMet mX9_isCount 0 0 0 [.int x0] w (rIs (some (.int (bi r0))) w) := by
  unfold J_X9_isCount at h
  refine rMet_of (by decide) rfl ?_
  refine rv_iload_n 0 dX9_isCount_0 rfl ?_
  refine rv_bipush (v := (-99)) dX9_isCount_1 (by decide) ?_
  obtain ⟨K16, eK16, h⟩ := rLetE h
  have hK16 : K16 = some r0 → rEv mX9_isCount 0 0 0 16 [] [] w (rIs (some (.int (bi r0))) w) := by
    intro h
    rw [eK16] at h
    refine rv_iconst (v := 0) dX9_isCount_16 (by decide) ?_
    exact rv_iret .boolean dX9_isCount_17 rfl (by decide) (rRetZp (x := 0) h rfl)
  clear eK16
  refine rv_icmp_lt 16 dX9_isCount_3 (by decide) (fun c1 => ?_) (fun c1 => ?_)
  · replace h := rIfT h c1
    exact rv_sub [] rfl (hK16 h)
  · replace h := rIfF h c1
    refine rv_iload_n 0 dX9_isCount_6 rfl ?_
    refine rv_bipush (v := 99) dX9_isCount_7 (by decide) ?_
    refine rv_icmp_gt 16 dX9_isCount_9 (by decide) (fun c2 => ?_) (fun c2 => ?_)
    · replace h := rIfT h c2
      exact rv_sub [] rfl (hK16 h)
    · replace h := rIfF h c2
      refine rv_iconst (v := 1) dX9_isCount_12 (by decide) ?_
      refine rv_goto 17 dX9_isCount_13 (by decide) ?_
      exact rv_iret .boolean dX9_isCount_17 rfl (by decide) (rRetZp (x := 1) h rfl)
set_option maxRecDepth 20000 in
theorem E_X5_addTwist_63 {r0 : Bool} {w0 : rW}  (x0 : Nat) (x1 : Nat) (x2 : Int32)   : ∀ (f : Nat) (x3 : Int32) (w : rW), J_X5_addTwist_63 x0 x1 x2 f x3 w = some (r0, w0) → rEv mX5_addTwist 2 0 0 63 [(0, .ref x0), (1, .ref x1), (2, .int x2), (3, .int x3)] [] w (rIs (some (.int (bi r0))) w0) := by
  intro f
  induction f with
  | zero =>
    intro x3 w h
    exact absurd (show (none : Option (Bool × rW)) = some (r0, w0) from h) (by simp)
  | succ f ih =>
    intro x3 w h
    rw [J_X5_addTwist_63] at h
    refine rv_iload_n 3 dX5_addTwist_63 rfl ?_
    refine rv_aload_n 1 dX5_addTwist_64 rfl ?_
    obtain ⟨v2, h1, h⟩ := rBind h
    refine rv_callVr (k3 := 0) (n3 := 0) (st2 := [.int x3]) caX8_choices cvX8_choices ml_X5_41 dX5_addTwist_65 rfl (E_X8_choices h1).2 (E_X8_choices h1).1 rfl rfl rfl rfl rfl ?_
    clear h1
    refine rv_icmp_ge 116 dX5_addTwist_68 (by decide) (fun c3 => ?_) (fun c3 => ?_)
    · replace h := rIfT h c3
      refine rv_iconst (v := 1) dX5_addTwist_116 (by decide) ?_
      exact rv_iret .boolean dX5_addTwist_117 rfl (by decide) (rRetZw (x := 1) h rfl)
    · replace h := rIfF h c3
      refine rv_aload_n 1 dX5_addTwist_71 rfl ?_
      refine rv_aload_n 0 dX5_addTwist_72 rfl ?_
      refine rv_getR ff_X5_22 dX5_addTwist_73 h (fun a4 h => ?_)
      refine rv_iload_n 3 dX5_addTwist_76 rfl ?_
      obtain ⟨v6, h5, h⟩ := rBind h
      refine rv_callVr (k3 := 0) (n3 := 0) (st2 := []) caX8_blockOf cvX8_blockOf ml_X5_47 dX5_addTwist_77 rfl (E_X8_blockOf h5).2 (E_X8_blockOf h5).1 rfl rfl rfl rfl rfl ?_
      clear h5
      refine rv_istore (l2 := [(4, .int v6), (0, .ref x0), (1, .ref x1), (2, .int x2), (3, .int x3)]) dX5_addTwist_80 rfl rfl ?_
      refine rv_aload_n 1 dX5_addTwist_82 rfl ?_
      refine rv_getR ff_X5_22 dX5_addTwist_83 h (fun a7 h => ?_)
      refine rv_iload 0 dX5_addTwist_86 rfl ?_
      obtain ⟨b9, h8, h⟩ := rBind h
      refine rv_callVr (k3 := 0) (n3 := 0) (st2 := []) caX0_has cvX0_has ml_X5_51 dX5_addTwist_88 rfl (E_X0_has h8).2 (E_X0_has h8).1 rfl rfl rfl rfl rfl ?_
      clear h8
      obtain ⟨K110, eK110, h⟩ := rLetE h
      have hK110 : ∀ (w : rW), K110 w = some (r0, w0) → rEv mX5_addTwist 2 0 0 110 [(0, .ref x0), (1, .ref x1), (2, .int x2), (3, .int x3)] [] w (rIs (some (.int (bi r0))) w0) := by
        intro w10 h
        rw [eK110] at h
        obtain ⟨v11, ev11, h⟩ := rLetE h
        refine rv_iinc (v := v11) (l2 := [(3, .int v11), (0, .ref x0), (1, .ref x1), (2, .int x2)]) 3 dX5_addTwist_110 rfl (by rw [ev11]; rfl) rfl rfl ?_
        clear ev11
        refine rv_goto 63 dX5_addTwist_113 (by decide) ?_
        exact rv_sub [1, 2, 3, 0] rfl (ih v11 w10 h)
      clear eK110
      refine rv_if_eq 110 dX5_addTwist_91 (by decide) (fun c12 => ?_) (fun c12 => ?_)
      · replace h := rIfT h c12
        exact rv_sub [1, 2, 3, 4] rfl (hK110 w h)
      · replace h := rIfF h c12
        refine rv_aload_n 1 dX5_addTwist_94 rfl ?_
        refine rv_getR ff_X5_9 dX5_addTwist_95 h (fun a13 h => ?_)
        refine rv_iload 0 dX5_addTwist_98 rfl ?_
        refine rv_dup2 dX5_addTwist_100 rfl rfl ?_
        refine rv_iaload dX5_addTwist_101 h (fun v14 h => ?_)
        refine rv_iload_n 3 dX5_addTwist_102 rfl ?_
        refine rv_iload_n 4 dX5_addTwist_103 rfl ?_
        obtain ⟨v16, h15, h⟩ := rBind h
        refine rv_callSr (k3 := 0) (n3 := 0) (st2 := [.int x2, .int v14, .int v6, .ref a13]) (As := [.int x3]) caX8_signOf csX8_signOf ml_X5_55 dX5_addTwist_104 rfl (E_X8_signOf h15) rfl rfl rfl rfl rfl ?_
        clear h15
        refine rv_imul dX5_addTwist_107 ?_
        refine rv_iadd dX5_addTwist_108 ?_
        refine rv_iastore dX5_addTwist_109 h (fun w17 h => ?_)
        exact rv_sub [1, 2, 3, 4] rfl (hK110 w17 h)
set_option maxRecDepth 20000 in
theorem E_X5_addTwist_2 {r0 : Bool} {w0 : rW}  (x0 : Nat) (x1 : Nat) (x2 : Int32) (w : rW)  {K61 : Option (Bool × rW)} (hK61 : K61 = some (r0, w0) → rEv mX5_addTwist 2 0 0 61 [(0, .ref x0), (1, .ref x1), (2, .int x2)] [] w (rIs (some (.int (bi r0))) w0)) : ∀ (f : Nat) (x3 : Int32), J_X5_addTwist_2 x0 x1 x2 w K61 f x3 = some (r0, w0) → rEv mX5_addTwist 2 0 0 2 [(0, .ref x0), (1, .ref x1), (2, .int x2), (3, .int x3)] [] w (rIs (some (.int (bi r0))) w0) := by
  intro f
  induction f with
  | zero =>
    intro x3 h
    exact absurd (show (none : Option (Bool × rW)) = some (r0, w0) from h) (by simp)
  | succ f ih =>
    intro x3 h
    rw [J_X5_addTwist_2] at h
    refine rv_iload_n 3 dX5_addTwist_2 rfl ?_
    refine rv_aload_n 1 dX5_addTwist_3 rfl ?_
    obtain ⟨v19, h18, h⟩ := rBind h
    refine rv_callVr (k3 := 0) (n3 := 0) (st2 := [.int x3]) caX8_choices cvX8_choices ml_X5_41 dX5_addTwist_4 rfl (E_X8_choices h18).2 (E_X8_choices h18).1 rfl rfl rfl rfl rfl ?_
    clear h18
    refine rv_icmp_ge 61 dX5_addTwist_7 (by decide) (fun c20 => ?_) (fun c20 => ?_)
    · replace h := rIfT h c20
      exact rv_sub [0, 1, 2] rfl (hK61 h)
    · replace h := rIfF h c20
      refine rv_aload_n 1 dX5_addTwist_10 rfl ?_
      refine rv_aload_n 0 dX5_addTwist_11 rfl ?_
      refine rv_getR ff_X5_22 dX5_addTwist_12 h (fun a21 h => ?_)
      refine rv_iload_n 3 dX5_addTwist_15 rfl ?_
      obtain ⟨v23, h22, h⟩ := rBind h
      refine rv_callVr (k3 := 0) (n3 := 0) (st2 := []) caX8_blockOf cvX8_blockOf ml_X5_47 dX5_addTwist_16 rfl (E_X8_blockOf h22).2 (E_X8_blockOf h22).1 rfl rfl rfl rfl rfl ?_
      clear h22
      refine rv_istore (l2 := [(4, .int v23), (0, .ref x0), (1, .ref x1), (2, .int x2), (3, .int x3)]) dX5_addTwist_19 rfl rfl ?_
      refine rv_aload_n 1 dX5_addTwist_21 rfl ?_
      refine rv_getR ff_X5_22 dX5_addTwist_22 h (fun a24 h => ?_)
      refine rv_iload 0 dX5_addTwist_25 rfl ?_
      obtain ⟨b26, h25, h⟩ := rBind h
      refine rv_callVr (k3 := 0) (n3 := 0) (st2 := []) caX0_has cvX0_has ml_X5_51 dX5_addTwist_27 rfl (E_X0_has h25).2 (E_X0_has h25).1 rfl rfl rfl rfl rfl ?_
      clear h25
      refine rv_if_eq 53 dX5_addTwist_30 (by decide) (fun c27 => ?_) (fun c27 => ?_)
      · replace h := rIfT h c27
        refine rv_iconst (v := 0) dX5_addTwist_53 (by decide) ?_
        exact rv_iret .boolean dX5_addTwist_54 rfl (by decide) (rRetZw (x := 0) h rfl)
      · replace h := rIfF h c27
        refine rv_aload_n 1 dX5_addTwist_33 rfl ?_
        refine rv_getR ff_X5_9 dX5_addTwist_34 h (fun a28 h => ?_)
        refine rv_iload 0 dX5_addTwist_37 rfl ?_
        refine rv_iaload dX5_addTwist_39 h (fun v29 h => ?_)
        refine rv_iload_n 3 dX5_addTwist_40 rfl ?_
        refine rv_iload_n 4 dX5_addTwist_41 rfl ?_
        obtain ⟨v31, h30, h⟩ := rBind h
        refine rv_callSr (k3 := 0) (n3 := 0) (st2 := [.int x2, .int v29]) (As := [.int x3]) caX8_signOf csX8_signOf ml_X5_55 dX5_addTwist_42 rfl (E_X8_signOf h30) rfl rfl rfl rfl rfl ?_
        clear h30
        refine rv_imul dX5_addTwist_45 ?_
        refine rv_iadd dX5_addTwist_46 ?_
        obtain ⟨b33, h32, h⟩ := rBind h
        refine rv_callSNr (k3 := 0) (n3 := 0) (st2 := []) (As := [.int (v29 + (x2 * v31))]) "TradedDesigns" caX9_isCount csX9_isCount (by decide +kernel) dX5_addTwist_47 rfl (E_X9_isCount h32) rfl rfl rfl rfl rfl ?_
        clear h32
        refine rv_if_ne 55 dX5_addTwist_50 (by decide) (fun c34 => ?_) (fun c34 => ?_)
        · replace h := rIfF h c34
          obtain ⟨v35, ev35, h⟩ := rLetE h
          refine rv_iinc (v := v35) (l2 := [(3, .int v35), (4, .int v23), (0, .ref x0), (1, .ref x1), (2, .int x2)]) 4 dX5_addTwist_55 rfl (by rw [ev35]; rfl) rfl rfl ?_
          clear ev35
          refine rv_goto 2 dX5_addTwist_58 (by decide) ?_
          exact rv_sub [2, 3, 4, 0] rfl (ih v35 h)
        · replace h := rIfT h c34
          refine rv_iconst (v := 0) dX5_addTwist_53 (by decide) ?_
          exact rv_iret .boolean dX5_addTwist_54 rfl (by decide) (rRetZw (x := 0) h rfl)
set_option maxRecDepth 20000 in
theorem E_X5_addTwist {x0 : Nat} {x1 : Nat} {x2 : Int32} {r0 : Bool} {w0 : rW} {w : rW} (h : J_X5_addTwist x0 x1 x2 w = some (r0, w0)) : (∃ fs, w[x0]? = some (cO 5 fs)) ∧ rMet mX5_addTwist 2 0 0 [.ref x0, .ref x1, .int x2] w (rIs (some (.int (bi r0))) w0) := by
  unfold J_X5_addTwist at h
  obtain ⟨hrc, h⟩ := rRc_some h
  refine ⟨hrc, ?_⟩
  refine rMet_of (by decide) rfl ?_
  refine rv_iconst (v := 0) dX5_addTwist_0 (by decide) ?_
  refine rv_istore_n (l2 := [(3, .int 0), (0, .ref x0), (1, .ref x1), (2, .int x2)]) dX5_addTwist_1 rfl rfl ?_
  obtain ⟨K61, eK61, h⟩ := rLetE h
  have hK61 : K61 = some (r0, w0) → rEv mX5_addTwist 2 0 0 61 [(0, .ref x0), (1, .ref x1), (2, .int x2)] [] w (rIs (some (.int (bi r0))) w0) := by
    intro h
    rw [eK61] at h
    refine rv_iconst (v := 0) dX5_addTwist_61 (by decide) ?_
    refine rv_istore_n (l2 := [(3, .int 0), (0, .ref x0), (1, .ref x1), (2, .int x2)]) dX5_addTwist_62 rfl rfl ?_
    exact rv_sub [1, 2, 3, 0] rfl (E_X5_addTwist_63 x0 x1 x2 2000 0 w h)
  clear eK61
  exact rv_sub [1, 2, 3, 0] rfl (E_X5_addTwist_2 x0 x1 x2 w hK61 2000 0 h)
set_option maxRecDepth 20000 in
theorem E_X5_takeDifference_2 {w0 : rW}  (x0 : Nat)   : ∀ (f : Nat) (x1 : Int32) (w : rW), J_X5_takeDifference_2 x0 f x1 w = some w0 → rEv mX5_takeDifference 1 0 0 2 [(0, .ref x0), (1, .int x1)] [] w (rIs none w0) := by
  intro f
  induction f with
  | zero =>
    intro x1 w h
    exact absurd (show (none : Option rW) = some w0 from h) (by simp)
  | succ f ih =>
    intro x1 w h
    rw [J_X5_takeDifference_2] at h
    refine rv_iload_n 1 dX5_takeDifference_2 rfl ?_
    refine rv_aload_n 0 dX5_takeDifference_3 rfl ?_
    refine rv_getR ff_X5_22 dX5_takeDifference_4 h (fun a1 h => ?_)
    refine rv_getI ff_X5_35 dX5_takeDifference_7 h (fun v2 h => ?_)
    refine rv_icmp_ge 58 dX5_takeDifference_10 (by decide) (fun c3 => ?_) (fun c3 => ?_)
    · replace h := rIfT h c3
      exact rv_vret dX5_takeDifference_58 rfl (rRetV h)
    · replace h := rIfF h c3
      refine rv_aload_n 0 dX5_takeDifference_13 rfl ?_
      refine rv_getR ff_X5_9 dX5_takeDifference_14 h (fun a4 h => ?_)
      refine rv_iload_n 1 dX5_takeDifference_17 rfl ?_
      refine rv_aload_n 0 dX5_takeDifference_18 rfl ?_
      refine rv_getJ ff_X5_15 dX5_takeDifference_19 h (fun v5 h => ?_)
      refine rv_iload_n 1 dX5_takeDifference_22 rfl ?_
      obtain ⟨b7, h6, h⟩ := rBind h
      refine rv_callSNr (k3 := 0) (n3 := 0) (st2 := [.int x1, .ref a4]) (As := [.long v5, .int x1]) "TradedDesigns" caX9_isIn csX9_isIn (by decide +kernel) dX5_takeDifference_23 rfl (E_X9_isIn h6) rfl rfl rfl rfl rfl ?_
      clear h6
      obtain ⟨K34, eK34, h⟩ := rLetE h
      have hK34 : ∀ (z0 : Nat) (z1 : Int32) (z2 : Int32), K34 z0 z1 z2 = some w0 → rEv mX5_takeDifference 1 0 0 34 [(0, .ref x0), (1, .int x1)] [.int z2, .int z1, .ref z0] w (rIs none w0) := by
        intro z8 z9 z10 h
        rw [eK34] at h
        refine rv_aload_n 0 dX5_takeDifference_34 rfl ?_
        refine rv_getJ ff_X5_19 dX5_takeDifference_35 h (fun v11 h => ?_)
        refine rv_iload_n 1 dX5_takeDifference_38 rfl ?_
        obtain ⟨b13, h12, h⟩ := rBind h
        refine rv_callSNr (k3 := 0) (n3 := 0) (st2 := [.int z10, .int z9, .ref z8]) (As := [.long v11, .int x1]) "TradedDesigns" caX9_isIn csX9_isIn (by decide +kernel) dX5_takeDifference_39 rfl (E_X9_isIn h12) rfl rfl rfl rfl rfl ?_
        clear h12
        obtain ⟨K50, eK50, h⟩ := rLetE h
        have hK50 : ∀ (z0 : Nat) (z1 : Int32) (z2 : Int32) (z3 : Int32), K50 z0 z1 z2 z3 = some w0 → rEv mX5_takeDifference 1 0 0 50 [(0, .ref x0), (1, .int x1)] [.int z3, .int z2, .int z1, .ref z0] w (rIs none w0) := by
          intro z14 z15 z16 z17 h
          rw [eK50] at h
          refine rv_isub dX5_takeDifference_50 ?_
          refine rv_iastore dX5_takeDifference_51 h (fun w18 h => ?_)
          obtain ⟨v19, ev19, h⟩ := rLetE h
          refine rv_iinc (v := v19) (l2 := [(1, .int v19), (0, .ref x0)]) 1 dX5_takeDifference_52 rfl (by rw [ev19]; rfl) rfl rfl ?_
          clear ev19
          refine rv_goto 2 dX5_takeDifference_55 (by decide) ?_
          exact rv_sub [1, 0] rfl (ih v19 w18 h)
        clear eK50
        refine rv_if_eq 49 dX5_takeDifference_42 (by decide) (fun c20 => ?_) (fun c20 => ?_)
        · replace h := rIfT h c20
          refine rv_iconst (v := 0) dX5_takeDifference_49 (by decide) ?_
          exact rv_sub [0, 1] rfl (hK50 z8 z9 z10 0 h)
        · replace h := rIfF h c20
          refine rv_iconst (v := 1) dX5_takeDifference_45 (by decide) ?_
          refine rv_goto 50 dX5_takeDifference_46 (by decide) ?_
          exact rv_sub [0, 1] rfl (hK50 z8 z9 z10 1 h)
      clear eK34
      refine rv_if_eq 33 dX5_takeDifference_26 (by decide) (fun c21 => ?_) (fun c21 => ?_)
      · replace h := rIfT h c21
        refine rv_iconst (v := 0) dX5_takeDifference_33 (by decide) ?_
        exact rv_sub [0, 1] rfl (hK34 a4 x1 0 h)
      · replace h := rIfF h c21
        refine rv_iconst (v := 1) dX5_takeDifference_29 (by decide) ?_
        refine rv_goto 34 dX5_takeDifference_30 (by decide) ?_
        exact rv_sub [0, 1] rfl (hK34 a4 x1 1 h)
set_option maxRecDepth 20000 in
theorem E_X5_takeDifference {x0 : Nat} {w0 : rW} {w : rW} (h : J_X5_takeDifference x0 w = some w0) : (∃ fs, w[x0]? = some (cO 5 fs)) ∧ rMet mX5_takeDifference 1 0 0 [.ref x0] w (rIs none w0) := by
  unfold J_X5_takeDifference at h
  obtain ⟨hrc, h⟩ := rRc_some h
  refine ⟨hrc, ?_⟩
  refine rMet_of (by decide) rfl ?_
  refine rv_iconst (v := 0) dX5_takeDifference_0 (by decide) ?_
  refine rv_istore_n (l2 := [(1, .int 0), (0, .ref x0)]) dX5_takeDifference_1 rfl rfl ?_
  exact rv_sub [1, 0] rfl (E_X5_takeDifference_2 x0 2000 0 w h)
set_option maxRecDepth 20000 in
theorem E_X9_withPlacesExchanged {x0 : Int64} {x2 : Int32} {x3 : Int32} {r0 : Int64} {w : rW} (h : J_X9_withPlacesExchanged x0 x2 x3 w = some r0) : rMet mX9_withPlacesExchanged 0 0 0 [.long x0, .int x2, .int x3] w (rIs (some (.long r0)) w) := by
  unfold J_X9_withPlacesExchanged at h
  refine rMet_of (by decide) rfl ?_
  refine rv_lload_n 0 dX9_withPlacesExchanged_0 rfl ?_
  refine rv_iload_n 1 dX9_withPlacesExchanged_1 rfl ?_
  refine rv_lshr dX9_withPlacesExchanged_2 ?_
  refine rv_lconst (v := 1) dX9_withPlacesExchanged_3 (by decide) ?_
  refine rv_land dX9_withPlacesExchanged_4 ?_
  refine rv_lload_n 0 dX9_withPlacesExchanged_5 rfl ?_
  refine rv_iload_n 2 dX9_withPlacesExchanged_6 rfl ?_
  refine rv_lshr dX9_withPlacesExchanged_7 ?_
  refine rv_lconst (v := 1) dX9_withPlacesExchanged_8 (by decide) ?_
  refine rv_land dX9_withPlacesExchanged_9 ?_
  refine rv_lcmp dX9_withPlacesExchanged_10 ?_
  obtain ⟨K19, eK19, h⟩ := rLetE h
  have hK19 : ∀ (z0 : Int32), K19 z0 = some r0 → rEv mX9_withPlacesExchanged 0 0 0 19 [(0, .long x0), (2, .int x2), (3, .int x3)] [.int z0] w (rIs (some (.long r0)) w) := by
    intro z1 h
    rw [eK19] at h
    refine rv_istore (l2 := [(4, .int z1), (0, .long x0), (2, .int x2), (3, .int x3)]) dX9_withPlacesExchanged_19 rfl rfl ?_
    refine rv_iload 0 dX9_withPlacesExchanged_21 rfl ?_
    refine rv_if_eq 30 dX9_withPlacesExchanged_23 (by decide) (fun c2 => ?_) (fun c2 => ?_)
    · replace h := rIfT h c2
      refine rv_lload_n 1 dX9_withPlacesExchanged_30 rfl ?_
      refine rv_lconst (v := 1) dX9_withPlacesExchanged_31 (by decide) ?_
      refine rv_iload_n 2 dX9_withPlacesExchanged_32 rfl ?_
      refine rv_lshl dX9_withPlacesExchanged_33 ?_
      refine rv_lconst (v := 1) dX9_withPlacesExchanged_34 (by decide) ?_
      refine rv_iload_n 3 dX9_withPlacesExchanged_35 rfl ?_
      refine rv_lshl dX9_withPlacesExchanged_36 ?_
      refine rv_lor dX9_withPlacesExchanged_37 ?_
      refine rv_lxor dX9_withPlacesExchanged_38 ?_
      exact rv_lret dX9_withPlacesExchanged_39 rfl (rRetJp h)
    · replace h := rIfF h c2
      refine rv_lload_n 1 dX9_withPlacesExchanged_26 rfl ?_
      refine rv_goto 39 dX9_withPlacesExchanged_27 (by decide) ?_
      exact rv_lret dX9_withPlacesExchanged_39 rfl (rRetJp h)
  clear eK19
  refine rv_if_ne 18 dX9_withPlacesExchanged_11 (by decide) (fun c3 => ?_) (fun c3 => ?_)
  · replace h := rIfF h c3
    refine rv_iconst (v := 0) dX9_withPlacesExchanged_18 (by decide) ?_
    exact rv_sub [0, 1, 2] rfl (hK19 0 h)
  · replace h := rIfT h c3
    refine rv_iconst (v := 1) dX9_withPlacesExchanged_14 (by decide) ?_
    refine rv_goto 19 dX9_withPlacesExchanged_15 (by decide) ?_
    exact rv_sub [0, 1, 2] rfl (hK19 1 h)
set_option maxRecDepth 20000 in
theorem E_X5_exchangePoints_2 {w0 : rW}  (x0 : Nat) (x1 : Int32) (x2 : Int32)   : ∀ (f : Nat) (x3 : Int32) (w : rW), J_X5_exchangePoints_2 x0 x1 x2 f x3 w = some w0 → rEv mX5_exchangePoints 1 0 0 2 [(0, .ref x0), (1, .int x1), (2, .int x2), (3, .int x3)] [] w (rIs none w0) := by
  intro f
  induction f with
  | zero =>
    intro x3 w h
    exact absurd (show (none : Option rW) = some w0 from h) (by simp)
  | succ f ih =>
    intro x3 w h
    rw [J_X5_exchangePoints_2] at h
    refine rv_iload_n 3 dX5_exchangePoints_2 rfl ?_
    refine rv_aload_n 0 dX5_exchangePoints_3 rfl ?_
    refine rv_getR ff_X5_22 dX5_exchangePoints_4 h (fun a1 h => ?_)
    refine rv_getI ff_X5_35 dX5_exchangePoints_7 h (fun v2 h => ?_)
    refine rv_icmp_ge 120 dX5_exchangePoints_10 (by decide) (fun c3 => ?_) (fun c3 => ?_)
    · replace h := rIfT h c3
      exact rv_vret dX5_exchangePoints_120 rfl (rRetV h)
    · replace h := rIfF h c3
      refine rv_aload_n 0 dX5_exchangePoints_13 rfl ?_
      refine rv_getR ff_X5_22 dX5_exchangePoints_14 h (fun a4 h => ?_)
      refine rv_aload_n 0 dX5_exchangePoints_17 rfl ?_
      refine rv_getR ff_X5_22 dX5_exchangePoints_18 h (fun a5 h => ?_)
      refine rv_getR ff_X5_66 dX5_exchangePoints_21 h (fun a6 h => ?_)
      refine rv_iload_n 3 dX5_exchangePoints_24 rfl ?_
      refine rv_iaload dX5_exchangePoints_25 h (fun v7 h => ?_)
      refine rv_i2l dX5_exchangePoints_26 ?_
      refine rv_iload_n 1 dX5_exchangePoints_27 rfl ?_
      refine rv_iload_n 2 dX5_exchangePoints_28 rfl ?_
      obtain ⟨v9, h8, h⟩ := rBind h
      refine rv_callSNr (k3 := 0) (n3 := 0) (st2 := [.ref a4]) (As := [.long (Int32.toInt64 v7), .int x1, .int x2]) "TradedDesigns" caX9_withPlacesExchanged csX9_withPlacesExchanged (by decide +kernel) dX5_exchangePoints_29 rfl (E_X9_withPlacesExchanged h8) rfl rfl rfl rfl rfl ?_
      clear h8
      refine rv_l2i dX5_exchangePoints_32 ?_
      obtain ⟨v11, h10, h⟩ := rBind h
      refine rv_callVr (k3 := 0) (n3 := 0) (st2 := []) caX0_numberOf cvX0_numberOf ml_X5_73 dX5_exchangePoints_33 rfl (E_X0_numberOf h10).2 (E_X0_numberOf h10).1 rfl rfl rfl rfl rfl ?_
      clear h10
      refine rv_istore (l2 := [(4, .int v11), (0, .ref x0), (1, .int x1), (2, .int x2), (3, .int x3)]) dX5_exchangePoints_36 rfl rfl ?_
      refine rv_iload 0 dX5_exchangePoints_38 rfl ?_
      refine rv_iload_n 4 dX5_exchangePoints_40 rfl ?_
      obtain ⟨K114, eK114, h⟩ := rLetE h
      have hK114 : ∀ (w : rW), K114 w = some w0 → rEv mX5_exchangePoints 1 0 0 114 [(0, .ref x0), (1, .int x1), (2, .int x2), (3, .int x3)] [] w (rIs none w0) := by
        intro w12 h
        rw [eK114] at h
        obtain ⟨v13, ev13, h⟩ := rLetE h
        refine rv_iinc (v := v13) (l2 := [(3, .int v13), (0, .ref x0), (1, .int x1), (2, .int x2)]) 3 dX5_exchangePoints_114 rfl (by rw [ev13]; rfl) rfl rfl ?_
        clear ev13
        refine rv_goto 2 dX5_exchangePoints_117 (by decide) ?_
        exact rv_sub [1, 2, 3, 0] rfl (ih v13 w12 h)
      clear eK114
      refine rv_icmp_le 114 dX5_exchangePoints_41 (by decide) (fun c14 => ?_) (fun c14 => ?_)
      · replace h := rIfT h c14
        exact rv_sub [1, 2, 3, 4] rfl (hK114 w h)
      · replace h := rIfF h c14
        refine rv_aload_n 1 dX5_exchangePoints_44 rfl ?_
        refine rv_getR ff_X5_22 dX5_exchangePoints_45 h (fun a15 h => ?_)
        refine rv_iload 0 dX5_exchangePoints_48 rfl ?_
        obtain ⟨b17, h16, h⟩ := rBind h
        refine rv_callVr (k3 := 0) (n3 := 0) (st2 := []) caX0_has cvX0_has ml_X5_51 dX5_exchangePoints_50 rfl (E_X0_has h16).2 (E_X0_has h16).1 rfl rfl rfl rfl rfl ?_
        clear h16
        refine rv_if_eq 114 dX5_exchangePoints_53 (by decide) (fun c18 => ?_) (fun c18 => ?_)
        · replace h := rIfT h c18
          exact rv_sub [1, 2, 3, 4] rfl (hK114 w h)
        · replace h := rIfF h c18
          refine rv_aload_n 1 dX5_exchangePoints_56 rfl ?_
          refine rv_getR ff_X5_9 dX5_exchangePoints_57 h (fun a19 h => ?_)
          refine rv_iload_n 4 dX5_exchangePoints_60 rfl ?_
          refine rv_iaload dX5_exchangePoints_61 h (fun v20 h => ?_)
          refine rv_istore (l2 := [(5, .int v20), (4, .int v11), (0, .ref x0), (1, .int x1), (2, .int x2), (3, .int x3)]) dX5_exchangePoints_62 rfl rfl ?_
          refine rv_aload_n 2 dX5_exchangePoints_64 rfl ?_
          refine rv_getR ff_X5_9 dX5_exchangePoints_65 h (fun a21 h => ?_)
          refine rv_iload_n 5 dX5_exchangePoints_68 rfl ?_
          refine rv_aload_n 2 dX5_exchangePoints_69 rfl ?_
          refine rv_getR ff_X5_9 dX5_exchangePoints_70 h (fun a22 h => ?_)
          refine rv_iload 1 dX5_exchangePoints_73 rfl ?_
          refine rv_iaload dX5_exchangePoints_75 h (fun v23 h => ?_)
          refine rv_iastore dX5_exchangePoints_76 h (fun w24 h => ?_)
          refine rv_aload_n 2 dX5_exchangePoints_77 rfl ?_
          refine rv_getR ff_X5_9 dX5_exchangePoints_78 h (fun a25 h => ?_)
          refine rv_iload 1 dX5_exchangePoints_81 rfl ?_
          refine rv_iload 0 dX5_exchangePoints_83 rfl ?_
          refine rv_iastore dX5_exchangePoints_85 h (fun w26 h => ?_)
          refine rv_aload_n 2 dX5_exchangePoints_86 rfl ?_
          refine rv_aload_n 2 dX5_exchangePoints_87 rfl ?_
          refine rv_getJ ff_X5_15 dX5_exchangePoints_88 h (fun v27 h => ?_)
          refine rv_iload_n 5 dX5_exchangePoints_91 rfl ?_
          refine rv_iload 1 dX5_exchangePoints_92 rfl ?_
          obtain ⟨v29, h28, h⟩ := rBind h
          refine rv_callSNr (k3 := 0) (n3 := 0) (st2 := [.ref x0]) (As := [.long v27, .int x3, .int v11]) "TradedDesigns" caX9_withPlacesExchanged csX9_withPlacesExchanged (by decide +kernel) dX5_exchangePoints_94 rfl (E_X9_withPlacesExchanged h28) rfl rfl rfl rfl rfl ?_
          clear h28
          refine rv_putJ ff_X5_15 (fp_X5_2 _) dX5_exchangePoints_97 h (fun w30 h => ?_)
          refine rv_aload_n 2 dX5_exchangePoints_100 rfl ?_
          refine rv_aload_n 2 dX5_exchangePoints_101 rfl ?_
          refine rv_getJ ff_X5_19 dX5_exchangePoints_102 h (fun v31 h => ?_)
          refine rv_iload_n 5 dX5_exchangePoints_105 rfl ?_
          refine rv_iload 1 dX5_exchangePoints_106 rfl ?_
          obtain ⟨v33, h32, h⟩ := rBind h
          refine rv_callSNr (k3 := 0) (n3 := 0) (st2 := [.ref x0]) (As := [.long v31, .int x3, .int v11]) "TradedDesigns" caX9_withPlacesExchanged csX9_withPlacesExchanged (by decide +kernel) dX5_exchangePoints_108 rfl (E_X9_withPlacesExchanged h32) rfl rfl rfl rfl rfl ?_
          clear h32
          refine rv_putJ ff_X5_19 (fp_X5_3 _) dX5_exchangePoints_111 h (fun w34 h => ?_)
          exact rv_sub [2, 3, 4, 5] rfl (hK114 w34 h)
set_option maxRecDepth 20000 in
theorem E_X5_exchangePoints {x0 : Nat} {x1 : Int32} {x2 : Int32} {w0 : rW} {w : rW} (h : J_X5_exchangePoints x0 x1 x2 w = some w0) : (∃ fs, w[x0]? = some (cO 5 fs)) ∧ rMet mX5_exchangePoints 1 0 0 [.ref x0, .int x1, .int x2] w (rIs none w0) := by
  unfold J_X5_exchangePoints at h
  obtain ⟨hrc, h⟩ := rRc_some h
  refine ⟨hrc, ?_⟩
  refine rMet_of (by decide) rfl ?_
  refine rv_iconst (v := 0) dX5_exchangePoints_0 (by decide) ?_
  refine rv_istore_n (l2 := [(3, .int 0), (0, .ref x0), (1, .int x1), (2, .int x2)]) dX5_exchangePoints_1 rfl rfl ?_
  exact rv_sub [1, 2, 3, 0] rfl (E_X5_exchangePoints_2 x0 x1 x2 2000 0 w h)
set_option maxRecDepth 20000 in
theorem E_X5_sumOf_4 {r0 : Int32}  (x0 : Nat) (x1 : Int32) (w : rW)   : ∀ (f : Nat) (x2 : Int32) (x3 : Int32), J_X5_sumOf_4 x0 x1 w f x2 x3 = some r0 → rEv mX5_sumOf 0 0 0 4 [(0, .ref x0), (1, .int x1), (2, .int x2), (3, .int x3)] [] w (rIs (some (.int r0)) w) := by
  intro f
  induction f with
  | zero =>
    intro x2 x3 h
    exact absurd (show (none : Option Int32) = some r0 from h) (by simp)
  | succ f ih =>
    intro x2 x3 h
    rw [J_X5_sumOf_4] at h
    refine rv_iload_n 3 dX5_sumOf_4 rfl ?_
    refine rv_aload_n 0 dX5_sumOf_5 rfl ?_
    refine rv_getR ff_X5_22 dX5_sumOf_6 h (fun a1 h => ?_)
    refine rv_getI ff_X5_35 dX5_sumOf_9 h (fun v2 h => ?_)
    refine rv_icmp_ge 45 dX5_sumOf_12 (by decide) (fun c3 => ?_) (fun c3 => ?_)
    · replace h := rIfT h c3
      refine rv_iload_n 2 dX5_sumOf_45 rfl ?_
      exact rv_iret .int dX5_sumOf_46 rfl rfl (rRetIp h)
    · replace h := rIfF h c3
      refine rv_aload_n 0 dX5_sumOf_15 rfl ?_
      refine rv_getR ff_X5_22 dX5_sumOf_16 h (fun a4 h => ?_)
      refine rv_getR ff_X5_66 dX5_sumOf_19 h (fun a5 h => ?_)
      refine rv_iload_n 3 dX5_sumOf_22 rfl ?_
      refine rv_iaload dX5_sumOf_23 h (fun v6 h => ?_)
      refine rv_iload_n 1 dX5_sumOf_24 rfl ?_
      refine rv_iand dX5_sumOf_25 ?_
      refine rv_iload_n 1 dX5_sumOf_26 rfl ?_
      obtain ⟨K39, eK39, h⟩ := rLetE h
      have hK39 : ∀ (y2 : Int32), K39 y2 = some r0 → rEv mX5_sumOf 0 0 0 39 [(0, .ref x0), (1, .int x1), (2, .int y2), (3, .int x3)] [] w (rIs (some (.int r0)) w) := by
        intro x2_7 h
        rw [eK39] at h
        obtain ⟨v8, ev8, h⟩ := rLetE h
        refine rv_iinc (v := v8) (l2 := [(3, .int v8), (0, .ref x0), (1, .int x1), (2, .int x2_7)]) 3 dX5_sumOf_39 rfl (by rw [ev8]; rfl) rfl rfl ?_
        clear ev8
        refine rv_goto 4 dX5_sumOf_42 (by decide) ?_
        exact rv_sub [1, 2, 3, 0] rfl (ih x2_7 v8 h)
      clear eK39
      refine rv_icmp_ne 39 dX5_sumOf_27 (by decide) (fun c9 => ?_) (fun c9 => ?_)
      · replace h := rIfF h c9
        exact rv_sub [0, 1, 2, 3] rfl (hK39 x2 h)
      · replace h := rIfT h c9
        refine rv_iload_n 2 dX5_sumOf_30 rfl ?_
        refine rv_aload_n 0 dX5_sumOf_31 rfl ?_
        refine rv_getR ff_X5_9 dX5_sumOf_32 h (fun a10 h => ?_)
        refine rv_iload_n 3 dX5_sumOf_35 rfl ?_
        refine rv_iaload dX5_sumOf_36 h (fun v11 h => ?_)
        refine rv_iadd dX5_sumOf_37 ?_
        refine rv_letI h (fun v12 h => ?_)
        refine rv_istore_n (l2 := [(2, .int v12), (0, .ref x0), (1, .int x1), (3, .int x3)]) dX5_sumOf_38 rfl rfl ?_
        exact rv_sub [1, 2, 0, 3] rfl (hK39 v12 h)
set_option maxRecDepth 20000 in
theorem E_X5_sumOf {x0 : Nat} {x1 : Int32} {r0 : Int32} {w : rW} (h : J_X5_sumOf x0 x1 w = some r0) : (∃ fs, w[x0]? = some (cO 5 fs)) ∧ rMet mX5_sumOf 0 0 0 [.ref x0, .int x1] w (rIs (some (.int r0)) w) := by
  unfold J_X5_sumOf at h
  obtain ⟨hrc, h⟩ := rRc_some h
  refine ⟨hrc, ?_⟩
  refine rMet_of (by decide) rfl ?_
  refine rv_iconst (v := 0) dX5_sumOf_0 (by decide) ?_
  refine rv_istore_n (l2 := [(2, .int 0), (0, .ref x0), (1, .int x1)]) dX5_sumOf_1 rfl rfl ?_
  refine rv_iconst (v := 0) dX5_sumOf_2 (by decide) ?_
  refine rv_istore_n (l2 := [(3, .int 0), (2, .int 0), (0, .ref x0), (1, .int x1)]) dX5_sumOf_3 rfl rfl ?_
  exact rv_sub [2, 3, 1, 0] rfl (E_X5_sumOf_4 x0 x1 w 2000 0 0 h)
set_option maxRecDepth 20000 in
theorem E_X5_firstAmiss_10 {r0 : Int32}  (x0 : Nat) (x2 : Int32) (x3 : Int32) (w : rW)  {K51 : Option Int32} (hK51 : K51 = some r0 → rEv mX5_firstAmiss 1 0 0 51 [(0, .ref x0), (2, .int x2), (3, .int x3)] [] w (rIs (some (.int r0)) w)) : ∀ (f : Nat) (x4 : Int32), J_X5_firstAmiss_10 x0 x3 w K51 f x4 = some r0 → rEv mX5_firstAmiss 1 0 0 10 [(0, .ref x0), (2, .int x2), (3, .int x3), (4, .int x4)] [] w (rIs (some (.int r0)) w) := by
  intro f
  induction f with
  | zero =>
    intro x4 h
    exact absurd (show (none : Option Int32) = some r0 from h) (by simp)
  | succ f ih =>
    intro x4 h
    rw [J_X5_firstAmiss_10] at h
    refine rv_iload 3 dX5_firstAmiss_10 rfl ?_
    refine rv_iconst (v := 1) dX5_firstAmiss_12 (by decide) ?_
    refine rv_aload_n 0 dX5_firstAmiss_13 rfl ?_
    refine rv_getR ff_X5_22 dX5_firstAmiss_14 h (fun a3 h => ?_)
    refine rv_getI ff_X5_96 dX5_firstAmiss_17 h (fun v4 h => ?_)
    refine rv_ishl dX5_firstAmiss_20 ?_
    refine rv_icmp_ge 51 dX5_firstAmiss_21 (by decide) (fun c5 => ?_) (fun c5 => ?_)
    · replace h := rIfT h c5
      exact rv_sub [0, 1, 2] rfl (hK51 h)
    · replace h := rIfF h c5
      refine rv_iload 3 dX5_firstAmiss_24 rfl ?_
      obtain ⟨v7, h6, h⟩ := rBind h
      refine rv_callSr (k3 := 0) (n3 := 0) (st2 := []) (As := [.int x4]) caJ6_bitCount_0f7a4 csJ6_bitCount_0f7a4 ml_X5_99 dX5_firstAmiss_26 rfl (E_J6_bitCount_0f7a4 h6) rfl rfl rfl rfl rfl ?_
      clear h6
      refine rv_iload_n 2 dX5_firstAmiss_29 rfl ?_
      obtain ⟨K45, eK45, h⟩ := rLetE h
      have hK45 : K45 = some r0 → rEv mX5_firstAmiss 1 0 0 45 [(0, .ref x0), (2, .int x2), (3, .int x3), (4, .int x4)] [] w (rIs (some (.int r0)) w) := by
        intro h
        rw [eK45] at h
        obtain ⟨v8, ev8, h⟩ := rLetE h
        refine rv_iinc (v := v8) (l2 := [(4, .int v8), (0, .ref x0), (2, .int x2), (3, .int x3)]) 3 dX5_firstAmiss_45 rfl (by rw [ev8]; rfl) rfl rfl ?_
        clear ev8
        refine rv_goto 10 dX5_firstAmiss_48 (by decide) ?_
        exact rv_sub [1, 2, 3, 0] rfl (ih v8 h)
      clear eK45
      refine rv_icmp_ne 45 dX5_firstAmiss_30 (by decide) (fun c9 => ?_) (fun c9 => ?_)
      · replace h := rIfF h c9
        exact rv_sub [0, 1, 2, 3] rfl (hK45 h)
      · replace h := rIfT h c9
        refine rv_aload_n 0 dX5_firstAmiss_33 rfl ?_
        refine rv_iload 3 dX5_firstAmiss_34 rfl ?_
        obtain ⟨v11, h10, h⟩ := rBind h
        refine rv_callVr (k3 := 0) (n3 := 0) (st2 := []) caX5_sumOf cvX5_sumOf ml_X5_104 dX5_firstAmiss_36 rfl (E_X5_sumOf h10).2 (E_X5_sumOf h10).1 rfl rfl rfl rfl rfl ?_
        clear h10
        refine rv_if_eq 45 dX5_firstAmiss_39 (by decide) (fun c12 => ?_) (fun c12 => ?_)
        · replace h := rIfT h c12
          exact rv_sub [0, 1, 2, 3] rfl (hK45 h)
        · replace h := rIfF h c12
          refine rv_iload 3 dX5_firstAmiss_42 rfl ?_
          exact rv_iret .int dX5_firstAmiss_44 rfl rfl (rRetIp h)
set_option maxRecDepth 20000 in
theorem E_X5_firstAmiss_2 {r0 : Int32}  (x0 : Nat) (x2 : Int32) (w : rW)   : ∀ (f : Nat) (x3 : Int32), J_X5_firstAmiss_2 x0 x2 w f x3 = some r0 → rEv mX5_firstAmiss 1 0 0 2 [(0, .ref x0), (2, .int x2), (3, .int x3)] [] w (rIs (some (.int r0)) w) := by
  intro f
  induction f with
  | zero =>
    intro x3 h
    exact absurd (show (none : Option Int32) = some r0 from h) (by simp)
  | succ f ih =>
    intro x3 h
    rw [J_X5_firstAmiss_2] at h
    refine rv_iload_n 2 dX5_firstAmiss_2 rfl ?_
    refine rv_iload_n 1 dX5_firstAmiss_3 rfl ?_
    refine rv_icmp_gt 57 dX5_firstAmiss_4 (by decide) (fun c1 => ?_) (fun c1 => ?_)
    · replace h := rIfT h c1
      refine rv_bipush (v := (-5)) dX5_firstAmiss_57 (by decide) ?_
      exact rv_iret .int dX5_firstAmiss_59 rfl rfl (rRetIp h)
    · replace h := rIfF h c1
      refine rv_iconst (v := 0) dX5_firstAmiss_7 (by decide) ?_
      refine rv_istore (l2 := [(4, .int 0), (0, .ref x0), (2, .int x2), (3, .int x3)]) dX5_firstAmiss_8 rfl rfl ?_
      obtain ⟨K51, eK51, h⟩ := rLetE h
      have hK51 : K51 = some r0 → rEv mX5_firstAmiss 1 0 0 51 [(0, .ref x0), (2, .int x2), (3, .int x3)] [] w (rIs (some (.int r0)) w) := by
        intro h
        rw [eK51] at h
        obtain ⟨v2, ev2, h⟩ := rLetE h
        refine rv_iinc (v := v2) (l2 := [(3, .int v2), (0, .ref x0), (2, .int x2)]) 2 dX5_firstAmiss_51 rfl (by rw [ev2]; rfl) rfl rfl ?_
        clear ev2
        refine rv_goto 2 dX5_firstAmiss_54 (by decide) ?_
        exact rv_sub [1, 2, 0] rfl (ih v2 h)
      clear eK51
      exact rv_sub [1, 2, 3, 0] rfl (E_X5_firstAmiss_10 x0 x2 x3 w hK51 2000 0 h)
set_option maxRecDepth 20000 in
theorem E_X5_firstAmiss {x0 : Nat} {x1 : Int32} {x2 : Int32} {r0 : Int32} {w : rW} (h : J_X5_firstAmiss x0 x1 x2 w = some r0) : (∃ fs, w[x0]? = some (cO 5 fs)) ∧ rMet mX5_firstAmiss 1 0 0 [.ref x0, .int x1, .int x2] w (rIs (some (.int r0)) w) := by
  unfold J_X5_firstAmiss at h
  obtain ⟨hrc, h⟩ := rRc_some h
  refine ⟨hrc, ?_⟩
  refine rMet_of (by decide) rfl ?_
  refine rv_iload_n 1 dX5_firstAmiss_0 rfl ?_
  refine rv_istore_n (l2 := [(3, .int x1), (0, .ref x0), (1, .int x1), (2, .int x2)]) dX5_firstAmiss_1 rfl rfl ?_
  exact rv_sub [1, 3, 0] rfl (E_X5_firstAmiss_2 x0 x2 w 2000 x1 h)
set_option maxRecDepth 20000 in
theorem E_X5_isTrade {x0 : Nat} {r0 : Bool} {w : rW} (h : J_X5_isTrade x0 w = some r0) : (∃ fs, w[x0]? = some (cO 5 fs)) ∧ rMet mX5_isTrade 2 0 0 [.ref x0] w (rIs (some (.int (bi r0))) w) := by
  unfold J_X5_isTrade at h
  obtain ⟨hrc, h⟩ := rRc_some h
  refine ⟨hrc, ?_⟩
  refine rMet_of (by decide) rfl ?_
  refine rv_aload_n 0 dX5_isTrade_0 rfl ?_
  refine rv_aload_n 0 dX5_isTrade_1 rfl ?_
  refine rv_getR ff_X5_22 dX5_isTrade_2 h (fun a1 h => ?_)
  refine rv_getI ff_X5_90 dX5_isTrade_5 h (fun v2 h => ?_)
  refine rv_aload_n 0 dX5_isTrade_8 rfl ?_
  refine rv_getR ff_X5_22 dX5_isTrade_9 h (fun a3 h => ?_)
  refine rv_getI ff_X5_90 dX5_isTrade_12 h (fun v4 h => ?_)
  obtain ⟨v6, h5, h⟩ := rBind h
  refine rv_callVr (k3 := 0) (n3 := 0) (st2 := []) caX5_firstAmiss cvX5_firstAmiss ml_X5_93 dX5_isTrade_15 rfl (E_X5_firstAmiss h5).2 (E_X5_firstAmiss h5).1 rfl rfl rfl rfl rfl ?_
  clear h5
  refine rv_bipush (v := (-5)) dX5_isTrade_18 (by decide) ?_
  refine rv_icmp_ne 27 dX5_isTrade_20 (by decide) (fun c7 => ?_) (fun c7 => ?_)
  · replace h := rIfF h c7
    refine rv_iconst (v := 0) dX5_isTrade_27 (by decide) ?_
    exact rv_iret .boolean dX5_isTrade_28 rfl (by decide) (rRetZp (x := 0) h rfl)
  · replace h := rIfT h c7
    refine rv_iconst (v := 1) dX5_isTrade_23 (by decide) ?_
    refine rv_goto 28 dX5_isTrade_24 (by decide) ?_
    exact rv_iret .boolean dX5_isTrade_28 rfl (by decide) (rRetZp (x := 1) h rfl)
set_option maxRecDepth 20000 in
theorem E_X5_mayBeSwapped_4 {r0 : Bool}  (x0 : Nat) (w : rW)  {K56 : Int32 → Option Bool} (hK56 : ∀ (y1 : Int32), K56 y1 = some r0 → rEv mX5_mayBeSwapped 3 0 0 56 [(0, .ref x0), (1, .int y1)] [] w (rIs (some (.int (bi r0))) w)) : ∀ (f : Nat) (x1 : Int32) (x2 : Int32), J_X5_mayBeSwapped_4 x0 w K56 f x1 x2 = some r0 → rEv mX5_mayBeSwapped 3 0 0 4 [(0, .ref x0), (1, .int x1), (2, .int x2)] [] w (rIs (some (.int (bi r0))) w) := by
  intro f
  induction f with
  | zero =>
    intro x1 x2 h
    exact absurd (show (none : Option Bool) = some r0 from h) (by simp)
  | succ f ih =>
    intro x1 x2 h
    rw [J_X5_mayBeSwapped_4] at h
    refine rv_iload_n 2 dX5_mayBeSwapped_4 rfl ?_
    refine rv_aload_n 0 dX5_mayBeSwapped_5 rfl ?_
    refine rv_getR ff_X5_22 dX5_mayBeSwapped_6 h (fun a6 h => ?_)
    refine rv_getI ff_X5_35 dX5_mayBeSwapped_9 h (fun v7 h => ?_)
    refine rv_icmp_ge 56 dX5_mayBeSwapped_12 (by decide) (fun c8 => ?_) (fun c8 => ?_)
    · replace h := rIfT h c8
      exact rv_sub [0, 1] rfl (hK56 x1 h)
    · replace h := rIfF h c8
      refine rv_aload_n 0 dX5_mayBeSwapped_15 rfl ?_
      refine rv_getR ff_X5_9 dX5_mayBeSwapped_16 h (fun a9 h => ?_)
      refine rv_iload_n 2 dX5_mayBeSwapped_19 rfl ?_
      refine rv_iaload dX5_mayBeSwapped_20 h (fun v10 h => ?_)
      refine rv_istore_n (l2 := [(3, .int v10), (0, .ref x0), (1, .int x1), (2, .int x2)]) dX5_mayBeSwapped_21 rfl rfl ?_
      refine rv_iload_n 0 dX5_mayBeSwapped_22 rfl ?_
      obtain ⟨K50, eK50, h⟩ := rLetE h
      have hK50 : ∀ (y1 : Int32), K50 y1 = some r0 → rEv mX5_mayBeSwapped 3 0 0 50 [(0, .ref x0), (1, .int y1), (2, .int x2)] [] w (rIs (some (.int (bi r0))) w) := by
        intro x1_11 h
        rw [eK50] at h
        obtain ⟨v12, ev12, h⟩ := rLetE h
        refine rv_iinc (v := v12) (l2 := [(2, .int v12), (0, .ref x0), (1, .int x1_11)]) 2 dX5_mayBeSwapped_50 rfl (by rw [ev12]; rfl) rfl rfl ?_
        clear ev12
        refine rv_goto 4 dX5_mayBeSwapped_53 (by decide) ?_
        exact rv_sub [1, 2, 0] rfl (ih x1_11 v12 h)
      clear eK50
      refine rv_if_eq 50 dX5_mayBeSwapped_23 (by decide) (fun c13 => ?_) (fun c13 => ?_)
      · replace h := rIfT h c13
        exact rv_sub [1, 2, 3] rfl (hK50 x1 h)
      · replace h := rIfF h c13
        refine rv_iconst (v := 0) dX5_mayBeSwapped_26 (by decide) ?_
        refine rv_istore_n (l2 := [(1, .int 0), (3, .int v10), (0, .ref x0), (2, .int x2)]) dX5_mayBeSwapped_27 rfl rfl ?_
        refine rv_iload_n 1 dX5_mayBeSwapped_28 rfl ?_
        refine rv_aload_n 2 dX5_mayBeSwapped_29 rfl ?_
        refine rv_getJ ff_X5_15 dX5_mayBeSwapped_30 h (fun v14 h => ?_)
        refine rv_iload_n 3 dX5_mayBeSwapped_33 rfl ?_
        obtain ⟨b16, h15, h⟩ := rBind h
        refine rv_callSNr (k3 := 0) (n3 := 0) (st2 := [.int v10]) (As := [.long v14, .int x2]) "TradedDesigns" caX9_isIn csX9_isIn (by decide +kernel) dX5_mayBeSwapped_34 rfl (E_X9_isIn h15) rfl rfl rfl rfl rfl ?_
        clear h15
        obtain ⟨K45, eK45, h⟩ := rLetE h
        have hK45 : ∀ (z0 : Int32) (z1 : Int32), K45 z0 z1 = some r0 → rEv mX5_mayBeSwapped 3 0 0 45 [(0, .ref x0), (1, .int 0), (2, .int x2)] [.int z1, .int z0] w (rIs (some (.int (bi r0))) w) := by
          intro z17 z18 h
          rw [eK45] at h
          refine rv_icmp_eq 50 dX5_mayBeSwapped_45 (by decide) (fun c19 => ?_) (fun c19 => ?_)
          · replace h := rIfT h c19
            exact rv_sub [0, 1, 2] rfl (hK50 0 h)
          · replace h := rIfF h c19
            refine rv_iconst (v := 0) dX5_mayBeSwapped_48 (by decide) ?_
            exact rv_iret .boolean dX5_mayBeSwapped_49 rfl (by decide) (rRetZp (x := 0) h rfl)
        clear eK45
        refine rv_if_eq 44 dX5_mayBeSwapped_37 (by decide) (fun c20 => ?_) (fun c20 => ?_)
        · replace h := rIfT h c20
          refine rv_iconst (v := 1) dX5_mayBeSwapped_44 (by decide) ?_
          exact rv_sub [2, 0, 3] rfl (hK45 v10 1 h)
        · replace h := rIfF h c20
          refine rv_iconst (v := (-1)) dX5_mayBeSwapped_40 (by decide) ?_
          refine rv_goto 45 dX5_mayBeSwapped_41 (by decide) ?_
          exact rv_sub [2, 0, 3] rfl (hK45 v10 (-1) h)
set_option maxRecDepth 20000 in
theorem E_X5_mayBeSwapped {x0 : Nat} {r0 : Bool} {w : rW} (h : J_X5_mayBeSwapped x0 w = some r0) : (∃ fs, w[x0]? = some (cO 5 fs)) ∧ rMet mX5_mayBeSwapped 3 0 0 [.ref x0] w (rIs (some (.int (bi r0))) w) := by
  unfold J_X5_mayBeSwapped at h
  obtain ⟨hrc, h⟩ := rRc_some h
  refine ⟨hrc, ?_⟩
  refine rMet_of (by decide) rfl ?_
  refine rv_iconst (v := 1) dX5_mayBeSwapped_0 (by decide) ?_
  refine rv_istore_n (l2 := [(1, .int 1), (0, .ref x0)]) dX5_mayBeSwapped_1 rfl rfl ?_
  refine rv_iconst (v := 0) dX5_mayBeSwapped_2 (by decide) ?_
  refine rv_istore_n (l2 := [(2, .int 0), (1, .int 1), (0, .ref x0)]) dX5_mayBeSwapped_3 rfl rfl ?_
  obtain ⟨K56, eK56, h⟩ := rLetE h
  have hK56 : ∀ (y1 : Int32), K56 y1 = some r0 → rEv mX5_mayBeSwapped 3 0 0 56 [(0, .ref x0), (1, .int y1)] [] w (rIs (some (.int (bi r0))) w) := by
    intro x1_1 h
    rw [eK56] at h
    refine rv_iload_n 1 dX5_mayBeSwapped_56 rfl ?_
    obtain ⟨K71, eK71, h⟩ := rLetE h
    have hK71 : K71 = some r0 → rEv mX5_mayBeSwapped 3 0 0 71 [] [] w (rIs (some (.int (bi r0))) w) := by
      intro h
      rw [eK71] at h
      refine rv_iconst (v := 0) dX5_mayBeSwapped_71 (by decide) ?_
      exact rv_iret .boolean dX5_mayBeSwapped_72 rfl (by decide) (rRetZp (x := 0) h rfl)
    clear eK71
    refine rv_if_ne 71 dX5_mayBeSwapped_57 (by decide) (fun c2 => ?_) (fun c2 => ?_)
    · replace h := rIfF h c2
      exact rv_sub [] rfl (hK71 h)
    · replace h := rIfT h c2
      refine rv_aload_n 0 dX5_mayBeSwapped_60 rfl ?_
      obtain ⟨b4, h3, h⟩ := rBind h
      refine rv_callVr (k3 := 0) (n3 := 0) (st2 := []) caX5_isTrade cvX5_isTrade ml_X5_76 dX5_mayBeSwapped_61 rfl (E_X5_isTrade h3).2 (E_X5_isTrade h3).1 rfl rfl rfl rfl rfl ?_
      clear h3
      refine rv_if_eq 71 dX5_mayBeSwapped_64 (by decide) (fun c5 => ?_) (fun c5 => ?_)
      · replace h := rIfT h c5
        exact rv_sub [] rfl (hK71 h)
      · replace h := rIfF h c5
        refine rv_iconst (v := 1) dX5_mayBeSwapped_67 (by decide) ?_
        refine rv_goto 72 dX5_mayBeSwapped_68 (by decide) ?_
        exact rv_iret .boolean dX5_mayBeSwapped_72 rfl (by decide) (rRetZp (x := 1) h rfl)
  clear eK56
  exact rv_sub [2, 1, 0] rfl (E_X5_mayBeSwapped_4 x0 w hK56 2000 1 0 h)
set_option maxRecDepth 20000 in
theorem E_X5_swapByRow_2 {w0 : rW}  (x0 : Nat)   : ∀ (f : Nat) (x1 : Int32) (w : rW), J_X5_swapByRow_2 x0 f x1 w = some w0 → rEv mX5_swapByRow 1 0 0 2 [(0, .ref x0), (1, .int x1)] [] w (rIs none w0) := by
  intro f
  induction f with
  | zero =>
    intro x1 w h
    exact absurd (show (none : Option rW) = some w0 from h) (by simp)
  | succ f ih =>
    intro x1 w h
    rw [J_X5_swapByRow_2] at h
    refine rv_iload_n 1 dX5_swapByRow_2 rfl ?_
    refine rv_aload_n 0 dX5_swapByRow_3 rfl ?_
    refine rv_getR ff_X5_22 dX5_swapByRow_4 h (fun a1 h => ?_)
    refine rv_getI ff_X5_35 dX5_swapByRow_7 h (fun v2 h => ?_)
    refine rv_icmp_ge 33 dX5_swapByRow_10 (by decide) (fun c3 => ?_) (fun c3 => ?_)
    · replace h := rIfT h c3
      exact rv_vret dX5_swapByRow_33 rfl (rRetV h)
    · replace h := rIfF h c3
      refine rv_aload_n 0 dX5_swapByRow_13 rfl ?_
      refine rv_getR ff_X5_9 dX5_swapByRow_14 h (fun a4 h => ?_)
      refine rv_iload_n 1 dX5_swapByRow_17 rfl ?_
      refine rv_iaload dX5_swapByRow_18 h (fun v5 h => ?_)
      obtain ⟨K27, eK27, h⟩ := rLetE h
      have hK27 : ∀ (w : rW), K27 w = some w0 → rEv mX5_swapByRow 1 0 0 27 [(0, .ref x0), (1, .int x1)] [] w (rIs none w0) := by
        intro w6 h
        rw [eK27] at h
        obtain ⟨v7, ev7, h⟩ := rLetE h
        refine rv_iinc (v := v7) (l2 := [(1, .int v7), (0, .ref x0)]) 1 dX5_swapByRow_27 rfl (by rw [ev7]; rfl) rfl rfl ?_
        clear ev7
        refine rv_goto 2 dX5_swapByRow_30 (by decide) ?_
        exact rv_sub [1, 0] rfl (ih v7 w6 h)
      clear eK27
      refine rv_if_eq 27 dX5_swapByRow_19 (by decide) (fun c8 => ?_) (fun c8 => ?_)
      · replace h := rIfT h c8
        exact rv_sub [0, 1] rfl (hK27 w h)
      · replace h := rIfF h c8
        refine rv_aload_n 0 dX5_swapByRow_22 rfl ?_
        refine rv_iload_n 1 dX5_swapByRow_23 rfl ?_
        obtain ⟨w10, h9, h⟩ := rBind h
        refine rv_callVv (k3 := 0) (n3 := 0) (st2 := []) caX5_toggle cvX5_toggle ml_X5_80 dX5_swapByRow_24 rfl (E_X5_toggle h9).2 (E_X5_toggle h9).1 rfl rfl rfl rfl rfl ?_
        clear h9
        exact rv_sub [0, 1] rfl (hK27 w10 h)
set_option maxRecDepth 20000 in
theorem E_X5_swapByRow {x0 : Nat} {w0 : rW} {w : rW} (h : J_X5_swapByRow x0 w = some w0) : (∃ fs, w[x0]? = some (cO 5 fs)) ∧ rMet mX5_swapByRow 1 0 0 [.ref x0] w (rIs none w0) := by
  unfold J_X5_swapByRow at h
  obtain ⟨hrc, h⟩ := rRc_some h
  refine ⟨hrc, ?_⟩
  refine rMet_of (by decide) rfl ?_
  refine rv_iconst (v := 0) dX5_swapByRow_0 (by decide) ?_
  refine rv_istore_n (l2 := [(1, .int 0), (0, .ref x0)]) dX5_swapByRow_1 rfl rfl ?_
  exact rv_sub [1, 0] rfl (E_X5_swapByRow_2 x0 2000 0 w h)
set_option maxRecDepth 20000 in
theorem E_X5_volume_4 {r0 : Int32}  (x0 : Nat) (w : rW)   : ∀ (f : Nat) (x1 : Int32) (x2 : Int32), J_X5_volume_4 x0 w f x1 x2 = some r0 → rEv mX5_volume 1 0 0 4 [(0, .ref x0), (1, .int x1), (2, .int x2)] [] w (rIs (some (.int r0)) w) := by
  intro f
  induction f with
  | zero =>
    intro x1 x2 h
    exact absurd (show (none : Option Int32) = some r0 from h) (by simp)
  | succ f ih =>
    intro x1 x2 h
    rw [J_X5_volume_4] at h
    refine rv_iload_n 2 dX5_volume_4 rfl ?_
    refine rv_aload_n 0 dX5_volume_5 rfl ?_
    refine rv_getR ff_X5_22 dX5_volume_6 h (fun a1 h => ?_)
    refine rv_getI ff_X5_35 dX5_volume_9 h (fun v2 h => ?_)
    refine rv_icmp_ge 34 dX5_volume_12 (by decide) (fun c3 => ?_) (fun c3 => ?_)
    · replace h := rIfT h c3
      refine rv_iload_n 1 dX5_volume_34 rfl ?_
      exact rv_iret .int dX5_volume_35 rfl rfl (rRetIp h)
    · replace h := rIfF h c3
      refine rv_iload_n 1 dX5_volume_15 rfl ?_
      refine rv_aload_n 0 dX5_volume_16 rfl ?_
      refine rv_getR ff_X5_9 dX5_volume_17 h (fun a4 h => ?_)
      refine rv_iload_n 2 dX5_volume_20 rfl ?_
      refine rv_iaload dX5_volume_21 h (fun v5 h => ?_)
      refine rv_iconst (v := 0) dX5_volume_22 (by decide) ?_
      refine rv_mmax ml_X5_84 sm_J9_max_7cf53 in_J9 co_J9_max_7cf53 dX5_volume_23 rfl rfl ?_
      refine rv_iadd dX5_volume_26 ?_
      refine rv_letI h (fun v6 h => ?_)
      refine rv_istore_n (l2 := [(1, .int v6), (0, .ref x0), (2, .int x2)]) dX5_volume_27 rfl rfl ?_
      obtain ⟨v7, ev7, h⟩ := rLetE h
      refine rv_iinc (v := v7) (l2 := [(2, .int v7), (1, .int v6), (0, .ref x0)]) 2 dX5_volume_28 rfl (by rw [ev7]; rfl) rfl rfl ?_
      clear ev7
      refine rv_goto 4 dX5_volume_31 (by decide) ?_
      exact rv_sub [2, 1, 0] rfl (ih v6 v7 h)
set_option maxRecDepth 20000 in
theorem E_X5_volume {x0 : Nat} {r0 : Int32} {w : rW} (h : J_X5_volume x0 w = some r0) : (∃ fs, w[x0]? = some (cO 5 fs)) ∧ rMet mX5_volume 1 0 0 [.ref x0] w (rIs (some (.int r0)) w) := by
  unfold J_X5_volume at h
  obtain ⟨hrc, h⟩ := rRc_some h
  refine ⟨hrc, ?_⟩
  refine rMet_of (by decide) rfl ?_
  refine rv_iconst (v := 0) dX5_volume_0 (by decide) ?_
  refine rv_istore_n (l2 := [(1, .int 0), (0, .ref x0)]) dX5_volume_1 rfl rfl ?_
  refine rv_iconst (v := 0) dX5_volume_2 (by decide) ?_
  refine rv_istore_n (l2 := [(2, .int 0), (1, .int 0), (0, .ref x0)]) dX5_volume_3 rfl rfl ?_
  exact rv_sub [2, 1, 0] rfl (E_X5_volume_4 x0 w 2000 0 0 h)
set_option maxRecDepth 20000 in
theorem E_X5_countsNotZero_4 {r0 : Int32}  (x0 : Nat) (w : rW)   : ∀ (f : Nat) (x1 : Int32) (x2 : Int32), J_X5_countsNotZero_4 x0 w f x1 x2 = some r0 → rEv mX5_countsNotZero 0 0 0 4 [(0, .ref x0), (1, .int x1), (2, .int x2)] [] w (rIs (some (.int r0)) w) := by
  intro f
  induction f with
  | zero =>
    intro x1 x2 h
    exact absurd (show (none : Option Int32) = some r0 from h) (by simp)
  | succ f ih =>
    intro x1 x2 h
    rw [J_X5_countsNotZero_4] at h
    refine rv_iload_n 2 dX5_countsNotZero_4 rfl ?_
    refine rv_aload_n 0 dX5_countsNotZero_5 rfl ?_
    refine rv_getR ff_X5_22 dX5_countsNotZero_6 h (fun a1 h => ?_)
    refine rv_getI ff_X5_35 dX5_countsNotZero_9 h (fun v2 h => ?_)
    refine rv_icmp_ge 33 dX5_countsNotZero_12 (by decide) (fun c3 => ?_) (fun c3 => ?_)
    · replace h := rIfT h c3
      refine rv_iload_n 1 dX5_countsNotZero_33 rfl ?_
      exact rv_iret .int dX5_countsNotZero_34 rfl rfl (rRetIp h)
    · replace h := rIfF h c3
      refine rv_aload_n 0 dX5_countsNotZero_15 rfl ?_
      refine rv_getR ff_X5_9 dX5_countsNotZero_16 h (fun a4 h => ?_)
      refine rv_iload_n 2 dX5_countsNotZero_19 rfl ?_
      refine rv_iaload dX5_countsNotZero_20 h (fun v5 h => ?_)
      obtain ⟨K27, eK27, h⟩ := rLetE h
      have hK27 : ∀ (y1 : Int32), K27 y1 = some r0 → rEv mX5_countsNotZero 0 0 0 27 [(0, .ref x0), (1, .int y1), (2, .int x2)] [] w (rIs (some (.int r0)) w) := by
        intro x1_6 h
        rw [eK27] at h
        obtain ⟨v7, ev7, h⟩ := rLetE h
        refine rv_iinc (v := v7) (l2 := [(2, .int v7), (0, .ref x0), (1, .int x1_6)]) 2 dX5_countsNotZero_27 rfl (by rw [ev7]; rfl) rfl rfl ?_
        clear ev7
        refine rv_goto 4 dX5_countsNotZero_30 (by decide) ?_
        exact rv_sub [1, 2, 0] rfl (ih x1_6 v7 h)
      clear eK27
      refine rv_if_eq 27 dX5_countsNotZero_21 (by decide) (fun c8 => ?_) (fun c8 => ?_)
      · replace h := rIfT h c8
        exact rv_sub [0, 1, 2] rfl (hK27 x1 h)
      · replace h := rIfF h c8
        obtain ⟨v9, ev9, h⟩ := rLetE h
        refine rv_iinc (v := v9) (l2 := [(1, .int v9), (0, .ref x0), (2, .int x2)]) 1 dX5_countsNotZero_24 rfl (by rw [ev9]; rfl) rfl rfl ?_
        clear ev9
        exact rv_sub [1, 0, 2] rfl (hK27 v9 h)
set_option maxRecDepth 20000 in
theorem E_X5_countsNotZero {x0 : Nat} {r0 : Int32} {w : rW} (h : J_X5_countsNotZero x0 w = some r0) : (∃ fs, w[x0]? = some (cO 5 fs)) ∧ rMet mX5_countsNotZero 0 0 0 [.ref x0] w (rIs (some (.int r0)) w) := by
  unfold J_X5_countsNotZero at h
  obtain ⟨hrc, h⟩ := rRc_some h
  refine ⟨hrc, ?_⟩
  refine rMet_of (by decide) rfl ?_
  refine rv_iconst (v := 0) dX5_countsNotZero_0 (by decide) ?_
  refine rv_istore_n (l2 := [(1, .int 0), (0, .ref x0)]) dX5_countsNotZero_1 rfl rfl ?_
  refine rv_iconst (v := 0) dX5_countsNotZero_2 (by decide) ?_
  refine rv_istore_n (l2 := [(2, .int 0), (1, .int 0), (0, .ref x0)]) dX5_countsNotZero_3 rfl rfl ?_
  exact rv_sub [2, 1, 0] rfl (E_X5_countsNotZero_4 x0 w 2000 0 0 h)
set_option maxRecDepth 20000 in
theorem E_X5_foundation_4 {r0 : Int32}  (x0 : Nat) (w : rW)   : ∀ (f : Nat) (x1 : Int32) (x2 : Int32), J_X5_foundation_4 x0 w f x1 x2 = some r0 → rEv mX5_foundation 0 0 0 4 [(0, .ref x0), (1, .int x1), (2, .int x2)] [] w (rIs (some (.int r0)) w) := by
  intro f
  induction f with
  | zero =>
    intro x1 x2 h
    exact absurd (show (none : Option Int32) = some r0 from h) (by simp)
  | succ f ih =>
    intro x1 x2 h
    rw [J_X5_foundation_4] at h
    refine rv_iload_n 2 dX5_foundation_4 rfl ?_
    refine rv_aload_n 0 dX5_foundation_5 rfl ?_
    refine rv_getR ff_X5_22 dX5_foundation_6 h (fun a1 h => ?_)
    refine rv_getI ff_X5_35 dX5_foundation_9 h (fun v2 h => ?_)
    refine rv_icmp_ge 42 dX5_foundation_12 (by decide) (fun c3 => ?_) (fun c3 => ?_)
    · replace h := rIfT h c3
      refine rv_iload_n 1 dX5_foundation_42 rfl ?_
      exact rv_iret .int dX5_foundation_43 rfl rfl (rRetIp h)
    · replace h := rIfF h c3
      refine rv_aload_n 0 dX5_foundation_15 rfl ?_
      refine rv_getR ff_X5_9 dX5_foundation_16 h (fun a4 h => ?_)
      refine rv_iload_n 2 dX5_foundation_19 rfl ?_
      refine rv_iaload dX5_foundation_20 h (fun v5 h => ?_)
      obtain ⟨K36, eK36, h⟩ := rLetE h
      have hK36 : ∀ (y1 : Int32), K36 y1 = some r0 → rEv mX5_foundation 0 0 0 36 [(0, .ref x0), (1, .int y1), (2, .int x2)] [] w (rIs (some (.int r0)) w) := by
        intro x1_6 h
        rw [eK36] at h
        obtain ⟨v7, ev7, h⟩ := rLetE h
        refine rv_iinc (v := v7) (l2 := [(2, .int v7), (0, .ref x0), (1, .int x1_6)]) 2 dX5_foundation_36 rfl (by rw [ev7]; rfl) rfl rfl ?_
        clear ev7
        refine rv_goto 4 dX5_foundation_39 (by decide) ?_
        exact rv_sub [1, 2, 0] rfl (ih x1_6 v7 h)
      clear eK36
      refine rv_if_eq 36 dX5_foundation_21 (by decide) (fun c8 => ?_) (fun c8 => ?_)
      · replace h := rIfT h c8
        exact rv_sub [0, 1, 2] rfl (hK36 x1 h)
      · replace h := rIfF h c8
        refine rv_iload_n 1 dX5_foundation_24 rfl ?_
        refine rv_aload_n 0 dX5_foundation_25 rfl ?_
        refine rv_getR ff_X5_22 dX5_foundation_26 h (fun a9 h => ?_)
        refine rv_getR ff_X5_66 dX5_foundation_29 h (fun a10 h => ?_)
        refine rv_iload_n 2 dX5_foundation_32 rfl ?_
        refine rv_iaload dX5_foundation_33 h (fun v11 h => ?_)
        refine rv_ior dX5_foundation_34 ?_
        refine rv_letI h (fun v12 h => ?_)
        refine rv_istore_n (l2 := [(1, .int v12), (0, .ref x0), (2, .int x2)]) dX5_foundation_35 rfl rfl ?_
        exact rv_sub [1, 0, 2] rfl (hK36 v12 h)
set_option maxRecDepth 20000 in
theorem E_X5_foundation {x0 : Nat} {r0 : Int32} {w : rW} (h : J_X5_foundation x0 w = some r0) : (∃ fs, w[x0]? = some (cO 5 fs)) ∧ rMet mX5_foundation 0 0 0 [.ref x0] w (rIs (some (.int r0)) w) := by
  unfold J_X5_foundation at h
  obtain ⟨hrc, h⟩ := rRc_some h
  refine ⟨hrc, ?_⟩
  refine rMet_of (by decide) rfl ?_
  refine rv_iconst (v := 0) dX5_foundation_0 (by decide) ?_
  refine rv_istore_n (l2 := [(1, .int 0), (0, .ref x0)]) dX5_foundation_1 rfl rfl ?_
  refine rv_iconst (v := 0) dX5_foundation_2 (by decide) ?_
  refine rv_istore_n (l2 := [(2, .int 0), (1, .int 0), (0, .ref x0)]) dX5_foundation_3 rfl rfl ?_
  exact rv_sub [2, 1, 0] rfl (E_X5_foundation_4 x0 w 2000 0 0 h)
set_option maxRecDepth 20000 in
theorem E_X5_isPlain_2 {r0 : Bool}  (x0 : Nat) (w : rW)   : ∀ (f : Nat) (x1 : Int32), J_X5_isPlain_2 x0 w f x1 = some r0 → rEv mX5_isPlain 0 0 0 2 [(0, .ref x0), (1, .int x1)] [] w (rIs (some (.int (bi r0))) w) := by
  intro f
  induction f with
  | zero =>
    intro x1 h
    exact absurd (show (none : Option Bool) = some r0 from h) (by simp)
  | succ f ih =>
    intro x1 h
    rw [J_X5_isPlain_2] at h
    refine rv_iload_n 1 dX5_isPlain_2 rfl ?_
    refine rv_aload_n 0 dX5_isPlain_3 rfl ?_
    refine rv_getR ff_X5_22 dX5_isPlain_4 h (fun a1 h => ?_)
    refine rv_getI ff_X5_35 dX5_isPlain_7 h (fun v2 h => ?_)
    refine rv_icmp_ge 41 dX5_isPlain_10 (by decide) (fun c3 => ?_) (fun c3 => ?_)
    · replace h := rIfT h c3
      refine rv_iconst (v := 1) dX5_isPlain_41 (by decide) ?_
      exact rv_iret .boolean dX5_isPlain_42 rfl (by decide) (rRetZp (x := 1) h rfl)
    · replace h := rIfF h c3
      refine rv_aload_n 0 dX5_isPlain_13 rfl ?_
      refine rv_getR ff_X5_9 dX5_isPlain_14 h (fun a4 h => ?_)
      refine rv_iload_n 1 dX5_isPlain_17 rfl ?_
      refine rv_iaload dX5_isPlain_18 h (fun v5 h => ?_)
      refine rv_iconst (v := (-1)) dX5_isPlain_19 (by decide) ?_
      refine rv_icmp_lt 33 dX5_isPlain_20 (by decide) (fun c6 => ?_) (fun c6 => ?_)
      · replace h := rIfT h c6
        refine rv_iconst (v := 0) dX5_isPlain_33 (by decide) ?_
        exact rv_iret .boolean dX5_isPlain_34 rfl (by decide) (rRetZp (x := 0) h rfl)
      · replace h := rIfF h c6
        refine rv_aload_n 0 dX5_isPlain_23 rfl ?_
        refine rv_getR ff_X5_9 dX5_isPlain_24 h (fun a7 h => ?_)
        refine rv_iload_n 1 dX5_isPlain_27 rfl ?_
        refine rv_iaload dX5_isPlain_28 h (fun v8 h => ?_)
        refine rv_iconst (v := 1) dX5_isPlain_29 (by decide) ?_
        refine rv_icmp_le 35 dX5_isPlain_30 (by decide) (fun c9 => ?_) (fun c9 => ?_)
        · replace h := rIfT h c9
          obtain ⟨v10, ev10, h⟩ := rLetE h
          refine rv_iinc (v := v10) (l2 := [(1, .int v10), (0, .ref x0)]) 1 dX5_isPlain_35 rfl (by rw [ev10]; rfl) rfl rfl ?_
          clear ev10
          refine rv_goto 2 dX5_isPlain_38 (by decide) ?_
          exact rv_sub [1, 0] rfl (ih v10 h)
        · replace h := rIfF h c9
          refine rv_iconst (v := 0) dX5_isPlain_33 (by decide) ?_
          exact rv_iret .boolean dX5_isPlain_34 rfl (by decide) (rRetZp (x := 0) h rfl)
set_option maxRecDepth 20000 in
theorem E_X5_isPlain {x0 : Nat} {r0 : Bool} {w : rW} (h : J_X5_isPlain x0 w = some r0) : (∃ fs, w[x0]? = some (cO 5 fs)) ∧ rMet mX5_isPlain 0 0 0 [.ref x0] w (rIs (some (.int (bi r0))) w) := by
  unfold J_X5_isPlain at h
  obtain ⟨hrc, h⟩ := rRc_some h
  refine ⟨hrc, ?_⟩
  refine rMet_of (by decide) rfl ?_
  refine rv_iconst (v := 0) dX5_isPlain_0 (by decide) ?_
  refine rv_istore_n (l2 := [(1, .int 0), (0, .ref x0)]) dX5_isPlain_1 rfl rfl ?_
  exact rv_sub [1, 0] rfl (E_X5_isPlain_2 x0 w 2000 0 h)
set_option maxRecDepth 20000 in
theorem E_X5_coverOf_4 {r0 : Int32}  (x0 : Nat) (x1 : Int32) (w : rW)   : ∀ (f : Nat) (x2 : Int32) (x3 : Int32), J_X5_coverOf_4 x0 x1 w f x2 x3 = some r0 → rEv mX5_coverOf 1 0 0 4 [(0, .ref x0), (1, .int x1), (2, .int x2), (3, .int x3)] [] w (rIs (some (.int r0)) w) := by
  intro f
  induction f with
  | zero =>
    intro x2 x3 h
    exact absurd (show (none : Option Int32) = some r0 from h) (by simp)
  | succ f ih =>
    intro x2 x3 h
    rw [J_X5_coverOf_4] at h
    refine rv_iload_n 3 dX5_coverOf_4 rfl ?_
    refine rv_aload_n 0 dX5_coverOf_5 rfl ?_
    refine rv_getR ff_X5_22 dX5_coverOf_6 h (fun a1 h => ?_)
    refine rv_getI ff_X5_35 dX5_coverOf_9 h (fun v2 h => ?_)
    refine rv_icmp_ge 47 dX5_coverOf_12 (by decide) (fun c3 => ?_) (fun c3 => ?_)
    · replace h := rIfT h c3
      refine rv_iload_n 2 dX5_coverOf_47 rfl ?_
      exact rv_iret .int dX5_coverOf_48 rfl rfl (rRetIp h)
    · replace h := rIfF h c3
      refine rv_aload_n 0 dX5_coverOf_15 rfl ?_
      refine rv_getJ ff_X5_15 dX5_coverOf_16 h (fun v4 h => ?_)
      refine rv_iload_n 3 dX5_coverOf_19 rfl ?_
      obtain ⟨b6, h5, h⟩ := rBind h
      refine rv_callSNr (k3 := 0) (n3 := 0) (st2 := []) (As := [.long v4, .int x3]) "TradedDesigns" caX9_isIn csX9_isIn (by decide +kernel) dX5_coverOf_20 rfl (E_X9_isIn h5) rfl rfl rfl rfl rfl ?_
      clear h5
      obtain ⟨K41, eK41, h⟩ := rLetE h
      have hK41 : ∀ (y2 : Int32), K41 y2 = some r0 → rEv mX5_coverOf 1 0 0 41 [(0, .ref x0), (1, .int x1), (2, .int y2), (3, .int x3)] [] w (rIs (some (.int r0)) w) := by
        intro x2_7 h
        rw [eK41] at h
        obtain ⟨v8, ev8, h⟩ := rLetE h
        refine rv_iinc (v := v8) (l2 := [(3, .int v8), (0, .ref x0), (1, .int x1), (2, .int x2_7)]) 3 dX5_coverOf_41 rfl (by rw [ev8]; rfl) rfl rfl ?_
        clear ev8
        refine rv_goto 4 dX5_coverOf_44 (by decide) ?_
        exact rv_sub [1, 2, 3, 0] rfl (ih x2_7 v8 h)
      clear eK41
      refine rv_if_eq 41 dX5_coverOf_23 (by decide) (fun c9 => ?_) (fun c9 => ?_)
      · replace h := rIfT h c9
        exact rv_sub [0, 1, 2, 3] rfl (hK41 x2 h)
      · replace h := rIfF h c9
        refine rv_aload_n 0 dX5_coverOf_26 rfl ?_
        refine rv_getR ff_X5_22 dX5_coverOf_27 h (fun a10 h => ?_)
        refine rv_iload_n 3 dX5_coverOf_30 rfl ?_
        refine rv_iload_n 1 dX5_coverOf_31 rfl ?_
        obtain ⟨b12, h11, h⟩ := rBind h
        refine rv_callVr (k3 := 0) (n3 := 0) (st2 := []) caX0_holds cvX0_holds ml_X5_107 dX5_coverOf_32 rfl (E_X0_holds h11).2 (E_X0_holds h11).1 rfl rfl rfl rfl rfl ?_
        clear h11
        refine rv_if_eq 41 dX5_coverOf_35 (by decide) (fun c13 => ?_) (fun c13 => ?_)
        · replace h := rIfT h c13
          exact rv_sub [0, 1, 2, 3] rfl (hK41 x2 h)
        · replace h := rIfF h c13
          obtain ⟨v14, ev14, h⟩ := rLetE h
          refine rv_iinc (v := v14) (l2 := [(2, .int v14), (0, .ref x0), (1, .int x1), (3, .int x3)]) 2 dX5_coverOf_38 rfl (by rw [ev14]; rfl) rfl rfl ?_
          clear ev14
          exact rv_sub [1, 2, 0, 3] rfl (hK41 v14 h)
set_option maxRecDepth 20000 in
theorem E_X5_coverOf {x0 : Nat} {x1 : Int32} {r0 : Int32} {w : rW} (h : J_X5_coverOf x0 x1 w = some r0) : (∃ fs, w[x0]? = some (cO 5 fs)) ∧ rMet mX5_coverOf 1 0 0 [.ref x0, .int x1] w (rIs (some (.int r0)) w) := by
  unfold J_X5_coverOf at h
  obtain ⟨hrc, h⟩ := rRc_some h
  refine ⟨hrc, ?_⟩
  refine rMet_of (by decide) rfl ?_
  refine rv_iconst (v := 0) dX5_coverOf_0 (by decide) ?_
  refine rv_istore_n (l2 := [(2, .int 0), (0, .ref x0), (1, .int x1)]) dX5_coverOf_1 rfl rfl ?_
  refine rv_iconst (v := 0) dX5_coverOf_2 (by decide) ?_
  refine rv_istore_n (l2 := [(3, .int 0), (2, .int 0), (0, .ref x0), (1, .int x1)]) dX5_coverOf_3 rfl rfl ?_
  exact rv_sub [2, 3, 1, 0] rfl (E_X5_coverOf_4 x0 x1 w 2000 0 0 h)
set_option maxRecDepth 20000 in
theorem E_X5_index_5 {r0 : Int32}  (x0 : Nat) (w : rW)   : ∀ (f : Nat) (x1 : Int32) (x2 : Int32), J_X5_index_5 x0 w f x1 x2 = some r0 → rEv mX5_index 2 0 0 5 [(0, .ref x0), (1, .int x1), (2, .int x2)] [] w (rIs (some (.int r0)) w) := by
  intro f
  induction f with
  | zero =>
    intro x1 x2 h
    exact absurd (show (none : Option Int32) = some r0 from h) (by simp)
  | succ f ih =>
    intro x1 x2 h
    rw [J_X5_index_5] at h
    refine rv_iload_n 2 dX5_index_5 rfl ?_
    refine rv_iconst (v := 1) dX5_index_6 (by decide) ?_
    refine rv_aload_n 0 dX5_index_7 rfl ?_
    refine rv_getR ff_X5_22 dX5_index_8 h (fun a1 h => ?_)
    refine rv_getI ff_X5_96 dX5_index_11 h (fun v2 h => ?_)
    refine rv_ishl dX5_index_14 ?_
    refine rv_icmp_ge 60 dX5_index_15 (by decide) (fun c3 => ?_) (fun c3 => ?_)
    · replace h := rIfT h c3
      refine rv_iload_n 1 dX5_index_60 rfl ?_
      exact rv_iret .int dX5_index_61 rfl rfl (rRetIp h)
    · replace h := rIfF h c3
      refine rv_iload_n 2 dX5_index_18 rfl ?_
      obtain ⟨v5, h4, h⟩ := rBind h
      refine rv_callSr (k3 := 0) (n3 := 0) (st2 := []) (As := [.int x2]) caJ6_bitCount_0f7a4 csJ6_bitCount_0f7a4 ml_X5_99 dX5_index_19 rfl (E_J6_bitCount_0f7a4 h4) rfl rfl rfl rfl rfl ?_
      clear h4
      refine rv_aload_n 0 dX5_index_22 rfl ?_
      refine rv_getR ff_X5_22 dX5_index_23 h (fun a6 h => ?_)
      refine rv_getI ff_X5_90 dX5_index_26 h (fun v7 h => ?_)
      obtain ⟨K54, eK54, h⟩ := rLetE h
      have hK54 : ∀ (y1 : Int32), K54 y1 = some r0 → rEv mX5_index 2 0 0 54 [(0, .ref x0), (1, .int y1), (2, .int x2)] [] w (rIs (some (.int r0)) w) := by
        intro x1_8 h
        rw [eK54] at h
        obtain ⟨v9, ev9, h⟩ := rLetE h
        refine rv_iinc (v := v9) (l2 := [(2, .int v9), (0, .ref x0), (1, .int x1_8)]) 2 dX5_index_54 rfl (by rw [ev9]; rfl) rfl rfl ?_
        clear ev9
        refine rv_goto 5 dX5_index_57 (by decide) ?_
        exact rv_sub [1, 2, 0] rfl (ih x1_8 v9 h)
      clear eK54
      refine rv_icmp_ne 54 dX5_index_29 (by decide) (fun c10 => ?_) (fun c10 => ?_)
      · replace h := rIfF h c10
        exact rv_sub [0, 1, 2] rfl (hK54 x1 h)
      · replace h := rIfT h c10
        refine rv_aload_n 0 dX5_index_32 rfl ?_
        refine rv_iload_n 2 dX5_index_33 rfl ?_
        obtain ⟨v12, h11, h⟩ := rBind h
        refine rv_callVr (k3 := 0) (n3 := 0) (st2 := []) caX5_coverOf cvX5_coverOf ml_X5_111 dX5_index_34 rfl (E_X5_coverOf h11).2 (E_X5_coverOf h11).1 rfl rfl rfl rfl rfl ?_
        clear h11
        refine rv_istore_n (l2 := [(3, .int v12), (0, .ref x0), (1, .int x1), (2, .int x2)]) dX5_index_37 rfl rfl ?_
        refine rv_iload_n 2 dX5_index_38 rfl ?_
        refine rv_bipush (v := (-5)) dX5_index_39 (by decide) ?_
        obtain ⟨K52, eK52, h⟩ := rLetE h
        have hK52 : K52 = some r0 → rEv mX5_index 2 0 0 52 [(0, .ref x0), (2, .int x2), (3, .int v12)] [] w (rIs (some (.int r0)) w) := by
          intro h
          rw [eK52] at h
          refine rv_iload_n 2 dX5_index_52 rfl ?_
          refine rv_istore_n (l2 := [(1, .int v12), (0, .ref x0), (2, .int x2), (3, .int v12)]) dX5_index_53 rfl rfl ?_
          exact rv_sub [1, 0, 2] rfl (hK54 v12 h)
        clear eK52
        refine rv_icmp_eq 52 dX5_index_41 (by decide) (fun c13 => ?_) (fun c13 => ?_)
        · replace h := rIfT h c13
          exact rv_sub [1, 3, 0] rfl (hK52 h)
        · replace h := rIfF h c13
          refine rv_iload_n 2 dX5_index_44 rfl ?_
          refine rv_iload_n 0 dX5_index_45 rfl ?_
          refine rv_icmp_eq 52 dX5_index_46 (by decide) (fun c14 => ?_) (fun c14 => ?_)
          · replace h := rIfT h c14
            exact rv_sub [1, 3, 0] rfl (hK52 h)
          · replace h := rIfF h c14
            refine rv_bipush (v := (-5)) dX5_index_49 (by decide) ?_
            exact rv_iret .int dX5_index_51 rfl rfl (rRetIp h)
set_option maxRecDepth 20000 in
theorem E_X5_index {x0 : Nat} {r0 : Int32} {w : rW} (h : J_X5_index x0 w = some r0) : (∃ fs, w[x0]? = some (cO 5 fs)) ∧ rMet mX5_index 2 0 0 [.ref x0] w (rIs (some (.int r0)) w) := by
  unfold J_X5_index at h
  obtain ⟨hrc, h⟩ := rRc_some h
  refine ⟨hrc, ?_⟩
  refine rMet_of (by decide) rfl ?_
  refine rv_bipush (v := (-5)) dX5_index_0 (by decide) ?_
  refine rv_istore_n (l2 := [(1, .int (-5)), (0, .ref x0)]) dX5_index_2 rfl rfl ?_
  refine rv_iconst (v := 0) dX5_index_3 (by decide) ?_
  refine rv_istore_n (l2 := [(2, .int 0), (1, .int (-5)), (0, .ref x0)]) dX5_index_4 rfl rfl ?_
  exact rv_sub [2, 1, 0] rfl (E_X5_index_5 x0 w 2000 (-5) 0 h)

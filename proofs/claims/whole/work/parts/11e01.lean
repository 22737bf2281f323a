set_option maxRecDepth 20000 in
theorem E_X0_init {x0 : Nat} {w0 : rW} {w : rW} (h : J_X0_init x0 w = some w0) : rMet mX0_init 1 2 312 [.ref x0] w (rIs none w0) := by
  unfold J_X0_init at h
  refine rMet_of (by decide) rfl ?_
  refine rv_aload_n 0 dX0_init_0 rfl ?_
  refine rv_objInit ml_X0_3 im_java_lang_Object__init_ co_object dX0_init_1 rfl rfl ?_
  refine rv_aload_n 0 dX0_init_4 rfl ?_
  refine rv_bipush (v := 56) dX0_init_5 (by decide) ?_
  refine rv_newIB (b := 56) (by decide) dX0_init_7 h (fun a1 w2 h => ?_)
  refine rv_putFA ff_X0_9 fp_X0_4 dX0_init_9 rfl h (fun w3 h => ?_)
  refine rv_aload_n 0 dX0_init_12 rfl ?_
  refine rv_sipush (v := 256) dX0_init_13 (by decide) ?_
  refine rv_newIB (b := 256) (by decide) dX0_init_16 h (fun a4 w5 h => ?_)
  refine rv_putFA ff_X0_15 fp_X0_5 dX0_init_18 rfl h (fun w6 h => ?_)
  exact rv_vret dX0_init_21 rfl (rRetV h)
set_option maxRecDepth 20000 in
theorem E_J6_bitCount_0f7a4 {x0 : Int32} {r0 : Int32} {w : rW} (h : J_J6_bitCount_0f7a4 x0 w = some r0) : rMet mJ6_bitCount_0f7a4 0 0 0 [.int x0] w (rIs (some (.int r0)) w) := by
  unfold J_J6_bitCount_0f7a4 at h
  refine rMet_of (by decide) rfl ?_
  refine rv_iload_n 0 dJ6_bitCount_0f7a4_0 rfl ?_
  refine rv_iload_n 0 dJ6_bitCount_0f7a4_1 rfl ?_
  refine rv_iconst (v := 1) dJ6_bitCount_0f7a4_2 (by decide) ?_
  refine rv_iushr dJ6_bitCount_0f7a4_3 ?_
  refine rv_ldcw dJ6_bitCount_0f7a4_4 kc_J6_265 ?_
  refine rv_iand dJ6_bitCount_0f7a4_7 ?_
  refine rv_isub dJ6_bitCount_0f7a4_8 ?_
  refine rv_letI h (fun v1 h => ?_)
  refine rv_istore_n (l2 := [(0, .int v1)]) dJ6_bitCount_0f7a4_9 rfl rfl ?_
  refine rv_iload_n 0 dJ6_bitCount_0f7a4_10 rfl ?_
  refine rv_ldcw dJ6_bitCount_0f7a4_11 kc_J6_266 ?_
  refine rv_iand dJ6_bitCount_0f7a4_14 ?_
  refine rv_iload_n 0 dJ6_bitCount_0f7a4_15 rfl ?_
  refine rv_iconst (v := 2) dJ6_bitCount_0f7a4_16 (by decide) ?_
  refine rv_iushr dJ6_bitCount_0f7a4_17 ?_
  refine rv_ldcw dJ6_bitCount_0f7a4_18 kc_J6_266 ?_
  refine rv_iand dJ6_bitCount_0f7a4_21 ?_
  refine rv_iadd dJ6_bitCount_0f7a4_22 ?_
  refine rv_letI h (fun v2 h => ?_)
  refine rv_istore_n (l2 := [(0, .int v2)]) dJ6_bitCount_0f7a4_23 rfl rfl ?_
  refine rv_iload_n 0 dJ6_bitCount_0f7a4_24 rfl ?_
  refine rv_iload_n 0 dJ6_bitCount_0f7a4_25 rfl ?_
  refine rv_iconst (v := 4) dJ6_bitCount_0f7a4_26 (by decide) ?_
  refine rv_iushr dJ6_bitCount_0f7a4_27 ?_
  refine rv_iadd dJ6_bitCount_0f7a4_28 ?_
  refine rv_ldcw dJ6_bitCount_0f7a4_29 kc_J6_267 ?_
  refine rv_iand dJ6_bitCount_0f7a4_32 ?_
  refine rv_letI h (fun v3 h => ?_)
  refine rv_istore_n (l2 := [(0, .int v3)]) dJ6_bitCount_0f7a4_33 rfl rfl ?_
  refine rv_iload_n 0 dJ6_bitCount_0f7a4_34 rfl ?_
  refine rv_iload_n 0 dJ6_bitCount_0f7a4_35 rfl ?_
  refine rv_bipush (v := 8) dJ6_bitCount_0f7a4_36 (by decide) ?_
  refine rv_iushr dJ6_bitCount_0f7a4_38 ?_
  refine rv_iadd dJ6_bitCount_0f7a4_39 ?_
  refine rv_letI h (fun v4 h => ?_)
  refine rv_istore_n (l2 := [(0, .int v4)]) dJ6_bitCount_0f7a4_40 rfl rfl ?_
  refine rv_iload_n 0 dJ6_bitCount_0f7a4_41 rfl ?_
  refine rv_iload_n 0 dJ6_bitCount_0f7a4_42 rfl ?_
  refine rv_bipush (v := 16) dJ6_bitCount_0f7a4_43 (by decide) ?_
  refine rv_iushr dJ6_bitCount_0f7a4_45 ?_
  refine rv_iadd dJ6_bitCount_0f7a4_46 ?_
  refine rv_letI h (fun v5 h => ?_)
  refine rv_istore_n (l2 := [(0, .int v5)]) dJ6_bitCount_0f7a4_47 rfl rfl ?_
  refine rv_iload_n 0 dJ6_bitCount_0f7a4_48 rfl ?_
  refine rv_bipush (v := 63) dJ6_bitCount_0f7a4_49 (by decide) ?_
  refine rv_iand dJ6_bitCount_0f7a4_51 ?_
  exact rv_iret .int dJ6_bitCount_0f7a4_52 rfl rfl (rRetIp h)
set_option maxRecDepth 20000 in
theorem E_X0_become_23 {w0 : rW}  (x0 : Nat)   : ∀ (f : Nat) (x4 : Int32) (w : rW), J_X0_become_23 x0 f x4 w = some w0 → rEv mX0_become 1 0 0 23 [(0, .ref x0), (4, .int x4)] [] w (rIs none w0) := by
  intro f
  induction f with
  | zero =>
    intro x4 w h
    exact absurd (show (none : Option rW) = some w0 from h) (by simp)
  | succ f ih =>
    intro x4 w h
    rw [J_X0_become_23] at h
    refine rv_iload 1 dX0_become_23 rfl ?_
    refine rv_sipush (v := 256) dX0_become_25 (by decide) ?_
    refine rv_icmp_ge 110 dX0_become_28 (by decide) (fun c5 => ?_) (fun c5 => ?_)
    · replace h := rIfT h c5
      exact rv_vret dX0_become_110 rfl (rRetV h)
    · replace h := rIfF h c5
      refine rv_aload_n 0 dX0_become_31 rfl ?_
      refine rv_getR ff_X0_15 dX0_become_32 h (fun a6 h => ?_)
      refine rv_iload 1 dX0_become_35 rfl ?_
      refine rv_bipush (v := (-5)) dX0_become_37 (by decide) ?_
      refine rv_iastore dX0_become_39 h (fun w7 h => ?_)
      refine rv_aload_n 0 dX0_become_40 rfl ?_
      refine rv_getI ff_X0_28 dX0_become_41 h (fun v8 h => ?_)
      refine rv_bipush (v := 56) dX0_become_44 (by decide) ?_
      obtain ⟨K104, eK104, h⟩ := rLetE h
      have hK104 : ∀ (w : rW), K104 w = some w0 → rEv mX0_become 1 0 0 104 [(0, .ref x0), (4, .int x4)] [] w (rIs none w0) := by
        intro w9 h
        rw [eK104] at h
        obtain ⟨v10, ev10, h⟩ := rLetE h
        refine rv_iinc (v := v10) (l2 := [(4, .int v10), (0, .ref x0)]) 1 dX0_become_104 rfl (by rw [ev10]; rfl) rfl rfl ?_
        clear ev10
        refine rv_goto 23 dX0_become_107 (by decide) ?_
        exact rv_sub [1, 0] rfl (ih v10 w9 h)
      clear eK104
      refine rv_icmp_ge 104 dX0_become_46 (by decide) (fun c11 => ?_) (fun c11 => ?_)
      · replace h := rIfT h c11
        exact rv_sub [0, 1] rfl (hK104 w7 h)
      · replace h := rIfF h c11
        refine rv_iload 1 dX0_become_49 rfl ?_
        refine rv_iconst (v := 1) dX0_become_51 (by decide) ?_
        refine rv_aload_n 0 dX0_become_52 rfl ?_
        refine rv_getI ff_X0_18 dX0_become_53 h (fun v12 h => ?_)
        refine rv_ishl dX0_become_56 ?_
        refine rv_icmp_ge 104 dX0_become_57 (by decide) (fun c13 => ?_) (fun c13 => ?_)
        · replace h := rIfT h c13
          exact rv_sub [0, 1] rfl (hK104 w7 h)
        · replace h := rIfF h c13
          refine rv_iload 1 dX0_become_60 rfl ?_
          obtain ⟨v15, h14, h⟩ := rBind h
          refine rv_callSr (k3 := 0) (n3 := 0) (st2 := []) (As := [.int x4]) caJ6_bitCount_0f7a4 csJ6_bitCount_0f7a4 ml_X0_31 dX0_become_62 rfl (E_J6_bitCount_0f7a4 h14) rfl rfl rfl rfl rfl ?_
          clear h14
          refine rv_aload_n 0 dX0_become_65 rfl ?_
          refine rv_getI ff_X0_22 dX0_become_66 h (fun v16 h => ?_)
          refine rv_icmp_ne 104 dX0_become_69 (by decide) (fun c17 => ?_) (fun c17 => ?_)
          · replace h := rIfF h c17
            exact rv_sub [0, 1] rfl (hK104 w7 h)
          · replace h := rIfT h c17
            refine rv_aload_n 0 dX0_become_72 rfl ?_
            refine rv_getR ff_X0_9 dX0_become_73 h (fun a18 h => ?_)
            refine rv_aload_n 0 dX0_become_76 rfl ?_
            refine rv_getI ff_X0_28 dX0_become_77 h (fun v19 h => ?_)
            refine rv_iload 1 dX0_become_80 rfl ?_
            refine rv_iastore dX0_become_82 h (fun w20 h => ?_)
            refine rv_aload_n 0 dX0_become_83 rfl ?_
            refine rv_getR ff_X0_15 dX0_become_84 h (fun a21 h => ?_)
            refine rv_iload 1 dX0_become_87 rfl ?_
            refine rv_aload_n 0 dX0_become_89 rfl ?_
            refine rv_getI ff_X0_28 dX0_become_90 h (fun v22 h => ?_)
            refine rv_iastore dX0_become_93 h (fun w23 h => ?_)
            refine rv_aload_n 0 dX0_become_94 rfl ?_
            refine rv_dup dX0_become_95 rfl ?_
            refine rv_getI ff_X0_28 dX0_become_96 h (fun v24 h => ?_)
            refine rv_iconst (v := 1) dX0_become_99 (by decide) ?_
            refine rv_iadd dX0_become_100 ?_
            refine rv_putI ff_X0_28 (fp_X0_3 _) dX0_become_101 h (fun w25 h => ?_)
            exact rv_sub [0, 1] rfl (hK104 w25 h)
set_option maxRecDepth 20000 in
theorem E_X0_become {x0 : Nat} {x1 : Int32} {x2 : Int32} {x3 : Int32} {w0 : rW} {w : rW} (h : J_X0_become x0 x1 x2 x3 w = some w0) : (∃ fs, w[x0]? = some (cO 0 fs)) ∧ rMet mX0_become 1 0 0 [.ref x0, .int x1, .int x2, .int x3] w (rIs none w0) := by
  unfold J_X0_become at h
  obtain ⟨hrc, h⟩ := rRc_some h
  refine ⟨hrc, ?_⟩
  refine rMet_of (by decide) rfl ?_
  refine rv_aload_n 0 dX0_become_0 rfl ?_
  refine rv_iload_n 1 dX0_become_1 rfl ?_
  refine rv_putI ff_X0_18 (fp_X0_0 _) dX0_become_2 h (fun w1 h => ?_)
  refine rv_aload_n 0 dX0_become_5 rfl ?_
  refine rv_iload_n 2 dX0_become_6 rfl ?_
  refine rv_putI ff_X0_22 (fp_X0_1 _) dX0_become_7 h (fun w2 h => ?_)
  refine rv_aload_n 0 dX0_become_10 rfl ?_
  refine rv_iload_n 3 dX0_become_11 rfl ?_
  refine rv_putI ff_X0_25 (fp_X0_2 _) dX0_become_12 h (fun w3 h => ?_)
  refine rv_aload_n 0 dX0_become_15 rfl ?_
  refine rv_iconst (v := 0) dX0_become_16 (by decide) ?_
  refine rv_putI ff_X0_28 (fp_X0_3 _) dX0_become_17 h (fun w4 h => ?_)
  refine rv_iconst (v := 0) dX0_become_20 (by decide) ?_
  refine rv_istore (l2 := [(4, .int 0), (0, .ref x0), (1, .int x1), (2, .int x2), (3, .int x3)]) dX0_become_21 rfl rfl ?_
  exact rv_sub [1, 0] rfl (E_X0_become_23 x0 2000 0 w4 h)
set_option maxRecDepth 20000 in
theorem E_X0_sizes {x0 : Nat} {r0 : Int32} {w : rW} (h : J_X0_sizes x0 w = some r0) : (∃ fs, w[x0]? = some (cO 0 fs)) ∧ rMet mX0_sizes 0 0 0 [.ref x0] w (rIs (some (.int r0)) w) := by
  unfold J_X0_sizes at h
  obtain ⟨hrc, h⟩ := rRc_some h
  refine ⟨hrc, ?_⟩
  refine rMet_of (by decide) rfl ?_
  refine rv_bipush (v := 100) dX0_sizes_0 (by decide) ?_
  refine rv_aload_n 0 dX0_sizes_2 rfl ?_
  refine rv_getI ff_X0_18 dX0_sizes_3 h (fun v1 h => ?_)
  refine rv_imul dX0_sizes_6 ?_
  refine rv_bipush (v := 10) dX0_sizes_7 (by decide) ?_
  refine rv_aload_n 0 dX0_sizes_9 rfl ?_
  refine rv_getI ff_X0_22 dX0_sizes_10 h (fun v2 h => ?_)
  refine rv_imul dX0_sizes_13 ?_
  refine rv_iadd dX0_sizes_14 ?_
  refine rv_aload_n 0 dX0_sizes_15 rfl ?_
  refine rv_getI ff_X0_25 dX0_sizes_16 h (fun v3 h => ?_)
  refine rv_iadd dX0_sizes_19 ?_
  exact rv_iret .int dX0_sizes_20 rfl rfl (rRetIp h)
set_option maxRecDepth 20000 in
theorem E_X0_copyFrom {x0 : Nat} {x1 : Nat} {w0 : rW} {w : rW} (h : J_X0_copyFrom x0 x1 w = some w0) : (∃ fs, w[x0]? = some (cO 0 fs)) ∧ rMet mX0_copyFrom 2 0 0 [.ref x0, .ref x1] w (rIs none w0) := by
  unfold J_X0_copyFrom at h
  obtain ⟨hrc, h⟩ := rRc_some h
  refine ⟨hrc, ?_⟩
  refine rMet_of (by decide) rfl ?_
  refine rv_aload_n 0 dX0_copyFrom_0 rfl ?_
  obtain ⟨v2, h1, h⟩ := rBind h
  refine rv_callVr (k3 := 0) (n3 := 0) (st2 := []) caX0_sizes cvX0_sizes ml_X0_37 dX0_copyFrom_1 rfl (E_X0_sizes h1).2 (E_X0_sizes h1).1 rfl rfl rfl rfl rfl ?_
  clear h1
  refine rv_aload_n 1 dX0_copyFrom_4 rfl ?_
  obtain ⟨v4, h3, h⟩ := rBind h
  refine rv_callVr (k3 := 0) (n3 := 0) (st2 := [.int v2]) caX0_sizes cvX0_sizes ml_X0_37 dX0_copyFrom_5 rfl (E_X0_sizes h3).2 (E_X0_sizes h3).1 rfl rfl rfl rfl rfl ?_
  clear h3
  refine rv_icmp_eq 27 dX0_copyFrom_8 (by decide) (fun c5 => ?_) (fun c5 => ?_)
  · replace h := rIfT h c5
    exact rv_vret dX0_copyFrom_27 rfl (rRetV h)
  · replace h := rIfF h c5
    refine rv_aload_n 0 dX0_copyFrom_11 rfl ?_
    refine rv_aload_n 1 dX0_copyFrom_12 rfl ?_
    refine rv_getI ff_X0_18 dX0_copyFrom_13 h (fun v6 h => ?_)
    refine rv_aload_n 1 dX0_copyFrom_16 rfl ?_
    refine rv_getI ff_X0_22 dX0_copyFrom_17 h (fun v7 h => ?_)
    refine rv_aload_n 1 dX0_copyFrom_20 rfl ?_
    refine rv_getI ff_X0_25 dX0_copyFrom_21 h (fun v8 h => ?_)
    obtain ⟨w10, h9, h⟩ := rBind h
    refine rv_callVv (k3 := 0) (n3 := 0) (st2 := []) caX0_become cvX0_become ml_X0_41 dX0_copyFrom_24 rfl (E_X0_become h9).2 (E_X0_become h9).1 rfl rfl rfl rfl rfl ?_
    clear h9
    exact rv_vret dX0_copyFrom_27 rfl (rRetV h)
set_option maxRecDepth 20000 in
theorem E_X0_has {x0 : Nat} {x1 : Int32} {r0 : Bool} {w : rW} (h : J_X0_has x0 x1 w = some r0) : (∃ fs, w[x0]? = some (cO 0 fs)) ∧ rMet mX0_has 0 0 0 [.ref x0, .int x1] w (rIs (some (.int (bi r0))) w) := by
  unfold J_X0_has at h
  obtain ⟨hrc, h⟩ := rRc_some h
  refine ⟨hrc, ?_⟩
  refine rMet_of (by decide) rfl ?_
  refine rv_iload_n 1 dX0_has_0 rfl ?_
  obtain ⟨K16, eK16, h⟩ := rLetE h
  have hK16 : K16 = some r0 → rEv mX0_has 0 0 0 16 [] [] w (rIs (some (.int (bi r0))) w) := by
    intro h
    rw [eK16] at h
    refine rv_iconst (v := 0) dX0_has_16 (by decide) ?_
    exact rv_iret .boolean dX0_has_17 rfl (by decide) (rRetZp (x := 0) h rfl)
  clear eK16
  refine rv_if_lt 16 dX0_has_1 (by decide) (fun c1 => ?_) (fun c1 => ?_)
  · replace h := rIfT h c1
    exact rv_sub [] rfl (hK16 h)
  · replace h := rIfF h c1
    refine rv_iload_n 1 dX0_has_4 rfl ?_
    refine rv_aload_n 0 dX0_has_5 rfl ?_
    refine rv_getI ff_X0_28 dX0_has_6 h (fun v2 h => ?_)
    refine rv_icmp_ge 16 dX0_has_9 (by decide) (fun c3 => ?_) (fun c3 => ?_)
    · replace h := rIfT h c3
      exact rv_sub [] rfl (hK16 h)
    · replace h := rIfF h c3
      refine rv_iconst (v := 1) dX0_has_12 (by decide) ?_
      refine rv_goto 17 dX0_has_13 (by decide) ?_
      exact rv_iret .boolean dX0_has_17 rfl (by decide) (rRetZp (x := 1) h rfl)
set_option maxRecDepth 20000 in
theorem E_X0_hasPoint {x0 : Nat} {x1 : Int32} {r0 : Bool} {w : rW} (h : J_X0_hasPoint x0 x1 w = some r0) : (∃ fs, w[x0]? = some (cO 0 fs)) ∧ rMet mX0_hasPoint 0 0 0 [.ref x0, .int x1] w (rIs (some (.int (bi r0))) w) := by
  unfold J_X0_hasPoint at h
  obtain ⟨hrc, h⟩ := rRc_some h
  refine ⟨hrc, ?_⟩
  refine rMet_of (by decide) rfl ?_
  refine rv_iload_n 1 dX0_hasPoint_0 rfl ?_
  obtain ⟨K16, eK16, h⟩ := rLetE h
  have hK16 : K16 = some r0 → rEv mX0_hasPoint 0 0 0 16 [] [] w (rIs (some (.int (bi r0))) w) := by
    intro h
    rw [eK16] at h
    refine rv_iconst (v := 0) dX0_hasPoint_16 (by decide) ?_
    exact rv_iret .boolean dX0_hasPoint_17 rfl (by decide) (rRetZp (x := 0) h rfl)
  clear eK16
  refine rv_if_lt 16 dX0_hasPoint_1 (by decide) (fun c1 => ?_) (fun c1 => ?_)
  · replace h := rIfT h c1
    exact rv_sub [] rfl (hK16 h)
  · replace h := rIfF h c1
    refine rv_iload_n 1 dX0_hasPoint_4 rfl ?_
    refine rv_aload_n 0 dX0_hasPoint_5 rfl ?_
    refine rv_getI ff_X0_18 dX0_hasPoint_6 h (fun v2 h => ?_)
    refine rv_icmp_ge 16 dX0_hasPoint_9 (by decide) (fun c3 => ?_) (fun c3 => ?_)
    · replace h := rIfT h c3
      exact rv_sub [] rfl (hK16 h)
    · replace h := rIfF h c3
      refine rv_iconst (v := 1) dX0_hasPoint_12 (by decide) ?_
      refine rv_goto 17 dX0_hasPoint_13 (by decide) ?_
      exact rv_iret .boolean dX0_hasPoint_17 rfl (by decide) (rRetZp (x := 1) h rfl)
set_option maxRecDepth 20000 in
theorem E_X0_isSet {x0 : Nat} {x1 : Int32} {x2 : Int32} {r0 : Bool} {w : rW} (h : J_X0_isSet x0 x1 x2 w = some r0) : (∃ fs, w[x0]? = some (cO 0 fs)) ∧ rMet mX0_isSet 1 0 0 [.ref x0, .int x1, .int x2] w (rIs (some (.int (bi r0))) w) := by
  unfold J_X0_isSet at h
  obtain ⟨hrc, h⟩ := rRc_some h
  refine ⟨hrc, ?_⟩
  refine rMet_of (by decide) rfl ?_
  refine rv_iload_n 1 dX0_isSet_0 rfl ?_
  obtain ⟨K26, eK26, h⟩ := rLetE h
  have hK26 : K26 = some r0 → rEv mX0_isSet 1 0 0 26 [] [] w (rIs (some (.int (bi r0))) w) := by
    intro h
    rw [eK26] at h
    refine rv_iconst (v := 0) dX0_isSet_26 (by decide) ?_
    exact rv_iret .boolean dX0_isSet_27 rfl (by decide) (rRetZp (x := 0) h rfl)
  clear eK26
  refine rv_if_lt 26 dX0_isSet_1 (by decide) (fun c1 => ?_) (fun c1 => ?_)
  · replace h := rIfT h c1
    exact rv_sub [] rfl (hK26 h)
  · replace h := rIfF h c1
    refine rv_iload_n 1 dX0_isSet_4 rfl ?_
    refine rv_iconst (v := 1) dX0_isSet_5 (by decide) ?_
    refine rv_aload_n 0 dX0_isSet_6 rfl ?_
    refine rv_getI ff_X0_18 dX0_isSet_7 h (fun v2 h => ?_)
    refine rv_ishl dX0_isSet_10 ?_
    refine rv_icmp_ge 26 dX0_isSet_11 (by decide) (fun c3 => ?_) (fun c3 => ?_)
    · replace h := rIfT h c3
      exact rv_sub [] rfl (hK26 h)
    · replace h := rIfF h c3
      refine rv_iload_n 1 dX0_isSet_14 rfl ?_
      obtain ⟨v5, h4, h⟩ := rBind h
      refine rv_callSr (k3 := 0) (n3 := 0) (st2 := []) (As := [.int x1]) caJ6_bitCount_0f7a4 csJ6_bitCount_0f7a4 ml_X0_31 dX0_isSet_15 rfl (E_J6_bitCount_0f7a4 h4) rfl rfl rfl rfl rfl ?_
      clear h4
      refine rv_iload_n 2 dX0_isSet_18 rfl ?_
      refine rv_icmp_gt 26 dX0_isSet_19 (by decide) (fun c6 => ?_) (fun c6 => ?_)
      · replace h := rIfT h c6
        exact rv_sub [] rfl (hK26 h)
      · replace h := rIfF h c6
        refine rv_iconst (v := 1) dX0_isSet_22 (by decide) ?_
        refine rv_goto 27 dX0_isSet_23 (by decide) ?_
        exact rv_iret .boolean dX0_isSet_27 rfl (by decide) (rRetZp (x := 1) h rfl)
set_option maxRecDepth 20000 in
theorem E_X0_numberOf {x0 : Nat} {x1 : Int32} {r0 : Int32} {w : rW} (h : J_X0_numberOf x0 x1 w = some r0) : (∃ fs, w[x0]? = some (cO 0 fs)) ∧ rMet mX0_numberOf 0 0 0 [.ref x0, .int x1] w (rIs (some (.int r0)) w) := by
  unfold J_X0_numberOf at h
  obtain ⟨hrc, h⟩ := rRc_some h
  refine ⟨hrc, ?_⟩
  refine rMet_of (by decide) rfl ?_
  refine rv_iload_n 1 dX0_numberOf_0 rfl ?_
  obtain ⟨K20, eK20, h⟩ := rLetE h
  have hK20 : K20 = some r0 → rEv mX0_numberOf 0 0 0 20 [] [] w (rIs (some (.int r0)) w) := by
    intro h
    rw [eK20] at h
    refine rv_bipush (v := (-5)) dX0_numberOf_20 (by decide) ?_
    exact rv_iret .int dX0_numberOf_22 rfl rfl (rRetIp h)
  clear eK20
  refine rv_if_lt 20 dX0_numberOf_1 (by decide) (fun c1 => ?_) (fun c1 => ?_)
  · replace h := rIfT h c1
    exact rv_sub [] rfl (hK20 h)
  · replace h := rIfF h c1
    refine rv_iload_n 1 dX0_numberOf_4 rfl ?_
    refine rv_sipush (v := 256) dX0_numberOf_5 (by decide) ?_
    refine rv_icmp_ge 20 dX0_numberOf_8 (by decide) (fun c2 => ?_) (fun c2 => ?_)
    · replace h := rIfT h c2
      exact rv_sub [] rfl (hK20 h)
    · replace h := rIfF h c2
      refine rv_aload_n 0 dX0_numberOf_11 rfl ?_
      refine rv_getR ff_X0_15 dX0_numberOf_12 h (fun a3 h => ?_)
      refine rv_iload_n 1 dX0_numberOf_15 rfl ?_
      refine rv_iaload dX0_numberOf_16 h (fun v4 h => ?_)
      refine rv_goto 22 dX0_numberOf_17 (by decide) ?_
      exact rv_iret .int dX0_numberOf_22 rfl rfl (rRetIp h)
set_option maxRecDepth 20000 in
theorem E_X0_holds {x0 : Nat} {x1 : Int32} {x2 : Int32} {r0 : Bool} {w : rW} (h : J_X0_holds x0 x1 x2 w = some r0) : (∃ fs, w[x0]? = some (cO 0 fs)) ∧ rMet mX0_holds 0 0 0 [.ref x0, .int x1, .int x2] w (rIs (some (.int (bi r0))) w) := by
  unfold J_X0_holds at h
  obtain ⟨hrc, h⟩ := rRc_some h
  refine ⟨hrc, ?_⟩
  refine rMet_of (by decide) rfl ?_
  refine rv_aload_n 0 dX0_holds_0 rfl ?_
  refine rv_getR ff_X0_9 dX0_holds_1 h (fun a1 h => ?_)
  refine rv_iload_n 1 dX0_holds_4 rfl ?_
  refine rv_iaload dX0_holds_5 h (fun v2 h => ?_)
  refine rv_iload_n 2 dX0_holds_6 rfl ?_
  refine rv_iand dX0_holds_7 ?_
  refine rv_iload_n 2 dX0_holds_8 rfl ?_
  refine rv_icmp_ne 16 dX0_holds_9 (by decide) (fun c3 => ?_) (fun c3 => ?_)
  · replace h := rIfF h c3
    refine rv_iconst (v := 0) dX0_holds_16 (by decide) ?_
    exact rv_iret .boolean dX0_holds_17 rfl (by decide) (rRetZp (x := 0) h rfl)
  · replace h := rIfT h c3
    refine rv_iconst (v := 1) dX0_holds_12 (by decide) ?_
    refine rv_goto 17 dX0_holds_13 (by decide) ?_
    exact rv_iret .boolean dX0_holds_17 rfl (by decide) (rRetZp (x := 1) h rfl)
set_option maxRecDepth 20000 in
theorem E_X0_holding_4 {r0 : Int32}  (x0 : Nat) (x1 : Int32) (w : rW)   : ∀ (f : Nat) (x2 : Int32) (x3 : Int32), J_X0_holding_4 x0 x1 w f x2 x3 = some r0 → rEv mX0_holding 1 0 0 4 [(0, .ref x0), (1, .int x1), (2, .int x2), (3, .int x3)] [] w (rIs (some (.int r0)) w) := by
  intro f
  induction f with
  | zero =>
    intro x2 x3 h
    exact absurd (show (none : Option Int32) = some r0 from h) (by simp)
  | succ f ih =>
    intro x2 x3 h
    rw [J_X0_holding_4] at h
    refine rv_iload_n 3 dX0_holding_4 rfl ?_
    refine rv_aload_n 0 dX0_holding_5 rfl ?_
    refine rv_getI ff_X0_28 dX0_holding_6 h (fun v1 h => ?_)
    refine rv_icmp_ge 30 dX0_holding_9 (by decide) (fun c2 => ?_) (fun c2 => ?_)
    · replace h := rIfT h c2
      refine rv_iload_n 2 dX0_holding_30 rfl ?_
      exact rv_iret .int dX0_holding_31 rfl rfl (rRetIp h)
    · replace h := rIfF h c2
      refine rv_aload_n 0 dX0_holding_12 rfl ?_
      refine rv_iload_n 3 dX0_holding_13 rfl ?_
      refine rv_iload_n 1 dX0_holding_14 rfl ?_
      obtain ⟨b4, h3, h⟩ := rBind h
      refine rv_callVr (k3 := 0) (n3 := 0) (st2 := []) caX0_holds cvX0_holds ml_X0_45 dX0_holding_15 rfl (E_X0_holds h3).2 (E_X0_holds h3).1 rfl rfl rfl rfl rfl ?_
      clear h3
      obtain ⟨K24, eK24, h⟩ := rLetE h
      have hK24 : ∀ (y2 : Int32), K24 y2 = some r0 → rEv mX0_holding 1 0 0 24 [(0, .ref x0), (1, .int x1), (2, .int y2), (3, .int x3)] [] w (rIs (some (.int r0)) w) := by
        intro x2_5 h
        rw [eK24] at h
        obtain ⟨v6, ev6, h⟩ := rLetE h
        refine rv_iinc (v := v6) (l2 := [(3, .int v6), (0, .ref x0), (1, .int x1), (2, .int x2_5)]) 3 dX0_holding_24 rfl (by rw [ev6]; rfl) rfl rfl ?_
        clear ev6
        refine rv_goto 4 dX0_holding_27 (by decide) ?_
        exact rv_sub [1, 2, 3, 0] rfl (ih x2_5 v6 h)
      clear eK24
      refine rv_if_eq 24 dX0_holding_18 (by decide) (fun c7 => ?_) (fun c7 => ?_)
      · replace h := rIfT h c7
        exact rv_sub [0, 1, 2, 3] rfl (hK24 x2 h)
      · replace h := rIfF h c7
        obtain ⟨v8, ev8, h⟩ := rLetE h
        refine rv_iinc (v := v8) (l2 := [(2, .int v8), (0, .ref x0), (1, .int x1), (3, .int x3)]) 2 dX0_holding_21 rfl (by rw [ev8]; rfl) rfl rfl ?_
        clear ev8
        exact rv_sub [1, 2, 0, 3] rfl (hK24 v8 h)
set_option maxRecDepth 20000 in
theorem E_X0_holding {x0 : Nat} {x1 : Int32} {r0 : Int32} {w : rW} (h : J_X0_holding x0 x1 w = some r0) : (∃ fs, w[x0]? = some (cO 0 fs)) ∧ rMet mX0_holding 1 0 0 [.ref x0, .int x1] w (rIs (some (.int r0)) w) := by
  unfold J_X0_holding at h
  obtain ⟨hrc, h⟩ := rRc_some h
  refine ⟨hrc, ?_⟩
  refine rMet_of (by decide) rfl ?_
  refine rv_iconst (v := 0) dX0_holding_0 (by decide) ?_
  refine rv_istore_n (l2 := [(2, .int 0), (0, .ref x0), (1, .int x1)]) dX0_holding_1 rfl rfl ?_
  refine rv_iconst (v := 0) dX0_holding_2 (by decide) ?_
  refine rv_istore_n (l2 := [(3, .int 0), (2, .int 0), (0, .ref x0), (1, .int x1)]) dX0_holding_3 rfl rfl ?_
  exact rv_sub [2, 3, 1, 0] rfl (E_X0_holding_4 x0 x1 w 2000 0 0 h)
set_option maxRecDepth 20000 in
theorem E_X8_init {x0 : Nat} {w0 : rW} {w : rW} (h : J_X8_init x0 w = some w0) : rMet mX8_init 1 1 6 [.ref x0] w (rIs none w0) := by
  unfold J_X8_init at h
  refine rMet_of (by decide) rfl ?_
  refine rv_aload_n 0 dX8_init_0 rfl ?_
  refine rv_objInit ml_X8_1 im_java_lang_Object__init_ co_object dX8_init_1 rfl rfl ?_
  refine rv_aload_n 0 dX8_init_4 rfl ?_
  refine rv_bipush (v := 6) dX8_init_5 (by decide) ?_
  refine rv_newIB (b := 6) (by decide) dX8_init_7 h (fun a1 w2 h => ?_)
  refine rv_putFA ff_X8_9 fp_X8_0 dX8_init_9 rfl h (fun w3 h => ?_)
  refine rv_aload_n 0 dX8_init_12 rfl ?_
  refine rv_iconst (v := 0) dX8_init_13 (by decide) ?_
  refine rv_putI ff_X8_13 (fp_X8_1 _) dX8_init_14 h (fun w4 h => ?_)
  refine rv_aload_n 0 dX8_init_17 rfl ?_
  refine rv_iconst (v := 0) dX8_init_18 (by decide) ?_
  refine rv_putI ff_X8_17 (fp_X8_2 _) dX8_init_19 h (fun w5 h => ?_)
  exact rv_vret dX8_init_22 rfl (rRetV h)
set_option maxRecDepth 20000 in
theorem E_X1_init {x0 : Nat} {w0 : rW} {w : rW} (h : J_X1_init x0 w = some w0) : rMet mX1_init 2 2 9 [.ref x0] w (rIs none w0) := by
  unfold J_X1_init at h
  refine rMet_of (by decide) rfl ?_
  refine rv_aload_n 0 dX1_init_0 rfl ?_
  refine rv_objInit ml_X1_1 im_java_lang_Object__init_ co_object dX1_init_1 rfl rfl ?_
  refine rv_aload_n 0 dX1_init_4 rfl ?_
  refine rv_newB 8 3 [.null, .int 0, .int 0] RX8 TX8 tyX8 rfl fw_X8 tyX8_ok cl_X1_7 ib_X8 in_X8 (by decide +kernel) rfl dX1_init_5 h (fun a1 w2 h => ?_)
  refine rv_dup dX1_init_8 rfl ?_
  obtain ⟨w4, h3, h⟩ := rBind h
  refine rv_callINv (k3 := 0) (n3 := 0) (st2 := [.ref a1, .ref x0]) "TradedDesigns" caX8_init ciX8_init (by decide +kernel) dX1_init_9 rfl (E_X8_init h3) rfl rfl rfl rfl rfl ?_
  clear h3
  refine rv_putFO ff_X1_10 fp_X1_0 dX1_init_12 rfl h (fun w5 h => ?_)
  refine rv_aload_n 0 dX1_init_15 rfl ?_
  refine rv_iconst (v := 0) dX1_init_16 (by decide) ?_
  refine rv_putI ff_X1_16 (fp_X1_1 _) dX1_init_17 h (fun w6 h => ?_)
  refine rv_aload_n 0 dX1_init_20 rfl ?_
  refine rv_iconst (v := 0) dX1_init_21 (by decide) ?_
  refine rv_putI ff_X1_20 (fp_X1_2 _) dX1_init_22 h (fun w7 h => ?_)
  refine rv_aload_n 0 dX1_init_25 rfl ?_
  refine rv_iconst (v := 0) dX1_init_26 (by decide) ?_
  refine rv_putI ff_X1_23 (fp_X1_3 _) dX1_init_27 h (fun w8 h => ?_)
  exact rv_vret dX1_init_30 rfl (rRetV h)
set_option maxRecDepth 20000 in
theorem E_X8_becomeFor {x0 : Nat} {x1 : Nat} {w0 : rW} {w : rW} (h : J_X8_becomeFor x0 x1 w = some w0) : (∃ fs, w[x0]? = some (cO 8 fs)) ∧ rMet mX8_becomeFor 1 0 0 [.ref x0, .ref x1] w (rIs none w0) := by
  unfold J_X8_becomeFor at h
  obtain ⟨hrc, h⟩ := rRc_some h
  refine ⟨hrc, ?_⟩
  refine rMet_of (by decide) rfl ?_
  refine rv_aload_n 0 dX8_becomeFor_0 rfl ?_
  refine rv_aload_n 1 dX8_becomeFor_1 rfl ?_
  refine rv_getI ff_X8_20 dX8_becomeFor_2 h (fun v1 h => ?_)
  refine rv_iconst (v := 1) dX8_becomeFor_5 (by decide) ?_
  refine rv_iadd dX8_becomeFor_6 ?_
  refine rv_putI ff_X8_13 (fp_X8_1 _) dX8_becomeFor_7 h (fun w2 h => ?_)
  refine rv_aload_n 0 dX8_becomeFor_10 rfl ?_
  refine rv_bipush (v := 6) dX8_becomeFor_11 (by decide) ?_
  refine rv_aload_n 1 dX8_becomeFor_13 rfl ?_
  refine rv_getI ff_X8_20 dX8_becomeFor_14 h (fun v3 h => ?_)
  refine rv_aload_n 1 dX8_becomeFor_17 rfl ?_
  refine rv_getI ff_X8_25 dX8_becomeFor_18 h (fun v4 h => ?_)
  refine rv_iadd dX8_becomeFor_21 ?_
  refine rv_iconst (v := 1) dX8_becomeFor_22 (by decide) ?_
  refine rv_iadd dX8_becomeFor_23 ?_
  refine rv_mmin ml_X8_28 sm_J9_min_7cf53 in_J9 co_J9_min_7cf53 dX8_becomeFor_24 rfl rfl ?_
  refine rv_putI ff_X8_17 (fp_X8_2 _) dX8_becomeFor_27 h (fun w5 h => ?_)
  exact rv_vret dX8_becomeFor_30 rfl (rRetV h)
set_option maxRecDepth 20000 in
theorem E_X8_blockOf_49 {r0 : Int32}  (x0 : Nat) (x1 : Nat) (w : rW)  {K76 : Int32 → Option Int32} (hK76 : ∀ (y3 : Int32), K76 y3 = some r0 → rEv mX8_blockOf 1 0 0 76 [(1, .ref x1), (3, .int y3)] [] w (rIs (some (.int r0)) w)) : ∀ (f : Nat) (x3 : Int32) (x4 : Int32), J_X8_blockOf_49 x0 w K76 f x3 x4 = some r0 → rEv mX8_blockOf 1 0 0 49 [(0, .ref x0), (1, .ref x1), (3, .int x3), (4, .int x4)] [] w (rIs (some (.int r0)) w) := by
  intro f
  induction f with
  | zero =>
    intro x3 x4 h
    exact absurd (show (none : Option Int32) = some r0 from h) (by simp)
  | succ f ih =>
    intro x3 x4 h
    rw [J_X8_blockOf_49] at h
    refine rv_iload 3 dX8_blockOf_49 rfl ?_
    refine rv_aload_n 0 dX8_blockOf_51 rfl ?_
    refine rv_getI ff_X8_17 dX8_blockOf_52 h (fun v7 h => ?_)
    refine rv_icmp_ge 76 dX8_blockOf_55 (by decide) (fun c8 => ?_) (fun c8 => ?_)
    · replace h := rIfT h c8
      exact rv_sub [1, 2] rfl (hK76 x3 h)
    · replace h := rIfF h c8
      refine rv_iload_n 2 dX8_blockOf_58 rfl ?_
      refine rv_iconst (v := 1) dX8_blockOf_59 (by decide) ?_
      refine rv_aload_n 0 dX8_blockOf_60 rfl ?_
      refine rv_getR ff_X8_9 dX8_blockOf_61 h (fun a9 h => ?_)
      refine rv_iload 3 dX8_blockOf_64 rfl ?_
      refine rv_iaload dX8_blockOf_66 h (fun v10 h => ?_)
      refine rv_ishl dX8_blockOf_67 ?_
      refine rv_ior dX8_blockOf_68 ?_
      refine rv_letI h (fun v11 h => ?_)
      refine rv_istore_n (l2 := [(3, .int v11), (0, .ref x0), (1, .ref x1), (4, .int x4)]) dX8_blockOf_69 rfl rfl ?_
      obtain ⟨v12, ev12, h⟩ := rLetE h
      refine rv_iinc (v := v12) (l2 := [(4, .int v12), (3, .int v11), (0, .ref x0), (1, .ref x1)]) 3 dX8_blockOf_70 rfl (by rw [ev12]; rfl) rfl rfl ?_
      clear ev12
      refine rv_goto 49 dX8_blockOf_73 (by decide) ?_
      exact rv_sub [2, 3, 1, 0] rfl (ih v11 v12 h)
set_option maxRecDepth 20000 in
theorem E_X8_blockOf_5 {r0 : Int32}  (x0 : Nat) (x1 : Nat) (x2 : Int32) (w : rW)  {K41 : Int32 → Option Int32} (hK41 : ∀ (y3 : Int32), K41 y3 = some r0 → rEv mX8_blockOf 1 0 0 41 [(0, .ref x0), (1, .ref x1), (3, .int y3)] [] w (rIs (some (.int r0)) w)) : ∀ (f : Nat) (x3 : Int32) (x4 : Int32), J_X8_blockOf_5 x0 x2 w K41 f x3 x4 = some r0 → rEv mX8_blockOf 1 0 0 5 [(0, .ref x0), (1, .ref x1), (2, .int x2), (3, .int x3), (4, .int x4)] [] w (rIs (some (.int r0)) w) := by
  intro f
  induction f with
  | zero =>
    intro x3 x4 h
    exact absurd (show (none : Option Int32) = some r0 from h) (by simp)
  | succ f ih =>
    intro x3 x4 h
    rw [J_X8_blockOf_5] at h
    refine rv_iload 4 dX8_blockOf_5 rfl ?_
    refine rv_aload_n 0 dX8_blockOf_7 rfl ?_
    refine rv_getI ff_X8_13 dX8_blockOf_8 h (fun v13 h => ?_)
    refine rv_icmp_ge 41 dX8_blockOf_11 (by decide) (fun c14 => ?_) (fun c14 => ?_)
    · replace h := rIfT h c14
      exact rv_sub [0, 1, 3] rfl (hK41 x3 h)
    · replace h := rIfF h c14
      refine rv_iload_n 3 dX8_blockOf_14 rfl ?_
      refine rv_iconst (v := 1) dX8_blockOf_15 (by decide) ?_
      refine rv_aload_n 0 dX8_blockOf_16 rfl ?_
      refine rv_getR ff_X8_9 dX8_blockOf_17 h (fun a15 h => ?_)
      refine rv_iconst (v := 2) dX8_blockOf_20 (by decide) ?_
      refine rv_iload 4 dX8_blockOf_21 rfl ?_
      refine rv_imul dX8_blockOf_23 ?_
      refine rv_iload_n 2 dX8_blockOf_24 rfl ?_
      refine rv_iload 4 dX8_blockOf_25 rfl ?_
      refine rv_ishr dX8_blockOf_27 ?_
      refine rv_iconst (v := 1) dX8_blockOf_28 (by decide) ?_
      refine rv_iand dX8_blockOf_29 ?_
      refine rv_iadd dX8_blockOf_30 ?_
      refine rv_iaload dX8_blockOf_31 h (fun v16 h => ?_)
      refine rv_ishl dX8_blockOf_32 ?_
      refine rv_ior dX8_blockOf_33 ?_
      refine rv_letI h (fun v17 h => ?_)
      refine rv_istore_n (l2 := [(3, .int v17), (0, .ref x0), (1, .ref x1), (2, .int x2), (4, .int x4)]) dX8_blockOf_34 rfl rfl ?_
      obtain ⟨v18, ev18, h⟩ := rLetE h
      refine rv_iinc (v := v18) (l2 := [(4, .int v18), (3, .int v17), (0, .ref x0), (1, .ref x1), (2, .int x2)]) 4 dX8_blockOf_35 rfl (by rw [ev18]; rfl) rfl rfl ?_
      clear ev18
      refine rv_goto 5 dX8_blockOf_38 (by decide) ?_
      exact rv_sub [2, 3, 4, 1, 0] rfl (ih v17 v18 h)
set_option maxRecDepth 20000 in
theorem E_X8_blockOf {x0 : Nat} {x1 : Nat} {x2 : Int32} {r0 : Int32} {w : rW} (h : J_X8_blockOf x0 x1 x2 w = some r0) : (∃ fs, w[x0]? = some (cO 8 fs)) ∧ rMet mX8_blockOf 1 0 0 [.ref x0, .ref x1, .int x2] w (rIs (some (.int r0)) w) := by
  unfold J_X8_blockOf at h
  obtain ⟨hrc, h⟩ := rRc_some h
  refine ⟨hrc, ?_⟩
  refine rMet_of (by decide) rfl ?_
  refine rv_iconst (v := 0) dX8_blockOf_0 (by decide) ?_
  refine rv_istore_n (l2 := [(3, .int 0), (0, .ref x0), (1, .ref x1), (2, .int x2)]) dX8_blockOf_1 rfl rfl ?_
  refine rv_iconst (v := 0) dX8_blockOf_2 (by decide) ?_
  refine rv_istore (l2 := [(4, .int 0), (3, .int 0), (0, .ref x0), (1, .ref x1), (2, .int x2)]) dX8_blockOf_3 rfl rfl ?_
  obtain ⟨K41, eK41, h⟩ := rLetE h
  have hK41 : ∀ (y3 : Int32), K41 y3 = some r0 → rEv mX8_blockOf 1 0 0 41 [(0, .ref x0), (1, .ref x1), (3, .int y3)] [] w (rIs (some (.int r0)) w) := by
    intro x3_1 h
    rw [eK41] at h
    refine rv_iconst (v := 2) dX8_blockOf_41 (by decide) ?_
    refine rv_aload_n 0 dX8_blockOf_42 rfl ?_
    refine rv_getI ff_X8_13 dX8_blockOf_43 h (fun v2 h => ?_)
    refine rv_imul dX8_blockOf_46 ?_
    refine rv_letI h (fun v3 h => ?_)
    refine rv_istore (l2 := [(4, .int v3), (0, .ref x0), (1, .ref x1), (3, .int x3_1)]) dX8_blockOf_47 rfl rfl ?_
    obtain ⟨K76, eK76, h⟩ := rLetE h
    have hK76 : ∀ (y3 : Int32), K76 y3 = some r0 → rEv mX8_blockOf 1 0 0 76 [(1, .ref x1), (3, .int y3)] [] w (rIs (some (.int r0)) w) := by
      intro x3_4 h
      rw [eK76] at h
      refine rv_aload_n 0 dX8_blockOf_76 rfl ?_
      refine rv_iload_n 1 dX8_blockOf_77 rfl ?_
      obtain ⟨v6, h5, h⟩ := rBind h
      refine rv_callVr (k3 := 0) (n3 := 0) (st2 := []) caX0_numberOf cvX0_numberOf ml_X8_42 dX8_blockOf_78 rfl (E_X0_numberOf h5).2 (E_X0_numberOf h5).1 rfl rfl rfl rfl rfl ?_
      clear h5
      exact rv_iret .int dX8_blockOf_81 rfl rfl (rRetIp h)
    clear eK76
    exact rv_sub [1, 2, 3, 0] rfl (E_X8_blockOf_49 x0 x1 w hK76 2000 x3_1 v3 h)
  clear eK41
  exact rv_sub [2, 3, 4, 1, 0] rfl (E_X8_blockOf_5 x0 x1 x2 w hK41 2000 0 0 h)
set_option maxRecDepth 20000 in
theorem E_X9_isIn {x0 : Int64} {x2 : Int32} {r0 : Bool} {w : rW} (h : J_X9_isIn x0 x2 w = some r0) : rMet mX9_isIn 0 0 0 [.long x0, .int x2] w (rIs (some (.int (bi r0))) w) := by
  unfold J_X9_isIn at h
  refine rMet_of (by decide) rfl ?_
  refine rv_lload_n 0 dX9_isIn_0 rfl ?_
  refine rv_iload_n 1 dX9_isIn_1 rfl ?_
  refine rv_lshr dX9_isIn_2 ?_
  refine rv_lconst (v := 1) dX9_isIn_3 (by decide) ?_
  refine rv_land dX9_isIn_4 ?_
  refine rv_lconst (v := 0) dX9_isIn_5 (by decide) ?_
  refine rv_lcmp dX9_isIn_6 ?_
  refine rv_if_eq 14 dX9_isIn_7 (by decide) (fun c1 => ?_) (fun c1 => ?_)
  · replace h := rIfT h c1
    refine rv_iconst (v := 0) dX9_isIn_14 (by decide) ?_
    exact rv_iret .boolean dX9_isIn_15 rfl (by decide) (rRetZp (x := 0) h rfl)
  · replace h := rIfF h c1
    refine rv_iconst (v := 1) dX9_isIn_10 (by decide) ?_
    refine rv_goto 15 dX9_isIn_11 (by decide) ?_
    exact rv_iret .boolean dX9_isIn_15 rfl (by decide) (rRetZp (x := 1) h rfl)
set_option maxRecDepth 20000 in
theorem E_X8_choices {x0 : Nat} {r0 : Int32} {w : rW} (h : J_X8_choices x0 w = some r0) : (∃ fs, w[x0]? = some (cO 8 fs)) ∧ rMet mX8_choices 0 0 0 [.ref x0] w (rIs (some (.int r0)) w) := by
  unfold J_X8_choices at h
  obtain ⟨hrc, h⟩ := rRc_some h
  refine ⟨hrc, ?_⟩
  refine rMet_of (by decide) rfl ?_
  refine rv_iconst (v := 1) dX8_choices_0 (by decide) ?_
  refine rv_aload_n 0 dX8_choices_1 rfl ?_
  refine rv_getI ff_X8_13 dX8_choices_2 h (fun v1 h => ?_)
  refine rv_ishl dX8_choices_5 ?_
  exact rv_iret .int dX8_choices_6 rfl rfl (rRetIp h)
set_option maxRecDepth 20000 in
theorem E_X8_signOf {x0 : Int32} {r0 : Int32} {w : rW} (h : J_X8_signOf x0 w = some r0) : rMet mX8_signOf 1 0 0 [.int x0] w (rIs (some (.int r0)) w) := by
  unfold J_X8_signOf at h
  refine rMet_of (by decide) rfl ?_
  refine rv_iload_n 0 dX8_signOf_0 rfl ?_
  obtain ⟨v2, h1, h⟩ := rBind h
  refine rv_callSr (k3 := 0) (n3 := 0) (st2 := []) (As := [.int x0]) caJ6_bitCount_0f7a4 csJ6_bitCount_0f7a4 ml_X8_46 dX8_signOf_1 rfl (E_J6_bitCount_0f7a4 h1) rfl rfl rfl rfl rfl ?_
  clear h1
  refine rv_iconst (v := 1) dX8_signOf_4 (by decide) ?_
  refine rv_iand dX8_signOf_5 ?_
  refine rv_if_ne 13 dX8_signOf_6 (by decide) (fun c3 => ?_) (fun c3 => ?_)
  · replace h := rIfF h c3
    refine rv_iconst (v := (-1)) dX8_signOf_13 (by decide) ?_
    exact rv_iret .int dX8_signOf_14 rfl rfl (rRetIp h)
  · replace h := rIfT h c3
    refine rv_iconst (v := 1) dX8_signOf_9 (by decide) ?_
    refine rv_goto 14 dX8_signOf_10 (by decide) ?_
    exact rv_iret .int dX8_signOf_14 rfl rfl (rRetIp h)
set_option maxRecDepth 20000 in
theorem E_X1_judgeTwist_34 {w0 : rW}  (x0 : Nat) (x1 : Nat) (x2 : Int32) (x4 : Int32) (w : rW)  {K96 : Option rW} (hK96 : K96 = some w0 → rEv mX1_judgeTwist 2 0 0 96 [(0, .ref x0), (2, .int x2), (4, .int x4)] [] w (rIs none w0)) : ∀ (f : Nat) (x5 : Int32), J_X1_judgeTwist_34 x0 x1 x4 w K96 f x5 = some w0 → rEv mX1_judgeTwist 2 0 0 34 [(0, .ref x0), (1, .ref x1), (2, .int x2), (4, .int x4), (5, .int x5)] [] w (rIs none w0) := by
  intro f
  induction f with
  | zero =>
    intro x5 h
    exact absurd (show (none : Option rW) = some w0 from h) (by simp)
  | succ f ih =>
    intro x5 h
    rw [J_X1_judgeTwist_34] at h
    refine rv_iload 4 dX1_judgeTwist_34 rfl ?_
    refine rv_aload_n 0 dX1_judgeTwist_36 rfl ?_
    refine rv_getR ff_X1_10 dX1_judgeTwist_37 h (fun a16 h => ?_)
    obtain ⟨v18, h17, h⟩ := rBind h
    refine rv_callVr (k3 := 0) (n3 := 0) (st2 := [.int x5]) caX8_choices cvX8_choices ml_X1_77 dX1_judgeTwist_40 rfl (E_X8_choices h17).2 (E_X8_choices h17).1 rfl rfl rfl rfl rfl ?_
    clear h17
    refine rv_icmp_ge 96 dX1_judgeTwist_43 (by decide) (fun c19 => ?_) (fun c19 => ?_)
    · replace h := rIfT h c19
      exact rv_sub [0, 2, 3] rfl (hK96 h)
    · replace h := rIfF h c19
      refine rv_iload 3 dX1_judgeTwist_46 rfl ?_
      refine rv_iload 4 dX1_judgeTwist_48 rfl ?_
      obtain ⟨v21, h20, h⟩ := rBind h
      refine rv_callSr (k3 := 0) (n3 := 0) (st2 := [.int x4]) (As := [.int x5]) caX8_signOf csX8_signOf ml_X1_81 dX1_judgeTwist_50 rfl (E_X8_signOf h20) rfl rfl rfl rfl rfl ?_
      clear h20
      refine rv_imul dX1_judgeTwist_53 ?_
      obtain ⟨K62, eK62, h⟩ := rLetE h
      have hK62 : ∀ (z0 : Int32), K62 z0 = some w0 → rEv mX1_judgeTwist 2 0 0 62 [(0, .ref x0), (1, .ref x1), (2, .int x2), (4, .int x4), (5, .int x5)] [.int z0] w (rIs none w0) := by
        intro z22 h
        rw [eK62] at h
        refine rv_istore (l2 := [(6, .int z22), (0, .ref x0), (1, .ref x1), (2, .int x2), (4, .int x4), (5, .int x5)]) dX1_judgeTwist_62 rfl rfl ?_
        refine rv_aload_n 2 dX1_judgeTwist_64 rfl ?_
        refine rv_getJ ff_X1_67 dX1_judgeTwist_65 h (fun v23 h => ?_)
        refine rv_aload_n 1 dX1_judgeTwist_68 rfl ?_
        refine rv_getR ff_X1_10 dX1_judgeTwist_69 h (fun a24 h => ?_)
        refine rv_aload_n 2 dX1_judgeTwist_72 rfl ?_
        refine rv_getR ff_X1_26 dX1_judgeTwist_73 h (fun a25 h => ?_)
        refine rv_iload 5 dX1_judgeTwist_76 rfl ?_
        obtain ⟨v27, h26, h⟩ := rBind h
        refine rv_callVr (k3 := 0) (n3 := 0) (st2 := [.long v23]) caX8_blockOf cvX8_blockOf ml_X1_63 dX1_judgeTwist_78 rfl (E_X8_blockOf h26).2 (E_X8_blockOf h26).1 rfl rfl rfl rfl rfl ?_
        clear h26
        obtain ⟨b29, h28, h⟩ := rBind h
        refine rv_callSNr (k3 := 0) (n3 := 0) (st2 := []) (As := [.long v23, .int v27]) "TradedDesigns" caX9_isIn csX9_isIn (by decide +kernel) dX1_judgeTwist_81 rfl (E_X9_isIn h28) rfl rfl rfl rfl rfl ?_
        clear h28
        refine rv_iload 0 dX1_judgeTwist_84 rfl ?_
        refine rv_icmp_eq 90 dX1_judgeTwist_86 (by decide) (fun c30 => ?_) (fun c30 => ?_)
        · replace h := rIfT h c30
          obtain ⟨v31, ev31, h⟩ := rLetE h
          refine rv_iinc (v := v31) (l2 := [(5, .int v31), (6, .int z22), (0, .ref x0), (1, .ref x1), (2, .int x2), (4, .int x4)]) 5 dX1_judgeTwist_90 rfl (by rw [ev31]; rfl) rfl rfl ?_
          clear ev31
          refine rv_goto 34 dX1_judgeTwist_93 (by decide) ?_
          exact rv_sub [2, 3, 4, 5, 0] rfl (ih v31 h)
        · replace h := rIfF h c30
          exact rv_vret dX1_judgeTwist_89 rfl (rRetV h)
      clear eK62
      refine rv_if_ge 61 dX1_judgeTwist_54 (by decide) (fun c32 => ?_) (fun c32 => ?_)
      · replace h := rIfT h c32
        refine rv_iconst (v := 0) dX1_judgeTwist_61 (by decide) ?_
        exact rv_sub [0, 1, 2, 3, 4] rfl (hK62 0 h)
      · replace h := rIfF h c32
        refine rv_iconst (v := 1) dX1_judgeTwist_57 (by decide) ?_
        refine rv_goto 62 dX1_judgeTwist_58 (by decide) ?_
        exact rv_sub [0, 1, 2, 3, 4] rfl (hK62 1 h)
set_option maxRecDepth 20000 in
theorem E_X1_judgeTwist {x0 : Nat} {x1 : Nat} {x2 : Int32} {w0 : rW} {w : rW} (h : J_X1_judgeTwist x0 x1 x2 w = some w0) : (∃ fs, w[x0]? = some (cO 1 fs)) ∧ rMet mX1_judgeTwist 2 0 0 [.ref x0, .ref x1, .int x2] w (rIs none w0) := by
  unfold J_X1_judgeTwist at h
  obtain ⟨hrc, h⟩ := rRc_some h
  refine ⟨hrc, ?_⟩
  refine rMet_of (by decide) rfl ?_
  refine rv_aload_n 0 dX1_judgeTwist_0 rfl ?_
  refine rv_getR ff_X1_10 dX1_judgeTwist_1 h (fun a1 h => ?_)
  refine rv_aload_n 1 dX1_judgeTwist_4 rfl ?_
  refine rv_getR ff_X1_26 dX1_judgeTwist_5 h (fun a2 h => ?_)
  refine rv_iconst (v := 0) dX1_judgeTwist_8 (by decide) ?_
  obtain ⟨v4, h3, h⟩ := rBind h
  refine rv_callVr (k3 := 0) (n3 := 0) (st2 := []) caX8_blockOf cvX8_blockOf ml_X1_63 dX1_judgeTwist_9 rfl (E_X8_blockOf h3).2 (E_X8_blockOf h3).1 rfl rfl rfl rfl rfl ?_
  clear h3
  refine rv_istore_n (l2 := [(3, .int v4), (0, .ref x0), (1, .ref x1), (2, .int x2)]) dX1_judgeTwist_12 rfl rfl ?_
  refine rv_aload_n 2 dX1_judgeTwist_13 rfl ?_
  refine rv_getJ ff_X1_67 dX1_judgeTwist_14 h (fun v5 h => ?_)
  refine rv_iload_n 0 dX1_judgeTwist_17 rfl ?_
  obtain ⟨b7, h6, h⟩ := rBind h
  refine rv_callSNr (k3 := 0) (n3 := 0) (st2 := []) (As := [.long v5, .int v4]) "TradedDesigns" caX9_isIn csX9_isIn (by decide +kernel) dX1_judgeTwist_18 rfl (E_X9_isIn h6) rfl rfl rfl rfl rfl ?_
  clear h6
  obtain ⟨K29, eK29, h⟩ := rLetE h
  have hK29 : ∀ (z0 : Int32), K29 z0 = some w0 → rEv mX1_judgeTwist 2 0 0 29 [(0, .ref x0), (1, .ref x1), (2, .int x2)] [.int z0] w (rIs none w0) := by
    intro z8 h
    rw [eK29] at h
    refine rv_istore (l2 := [(4, .int z8), (0, .ref x0), (1, .ref x1), (2, .int x2)]) dX1_judgeTwist_29 rfl rfl ?_
    refine rv_iconst (v := 1) dX1_judgeTwist_31 (by decide) ?_
    refine rv_istore (l2 := [(5, .int 1), (4, .int z8), (0, .ref x0), (1, .ref x1), (2, .int x2)]) dX1_judgeTwist_32 rfl rfl ?_
    obtain ⟨K96, eK96, h⟩ := rLetE h
    have hK96 : K96 = some w0 → rEv mX1_judgeTwist 2 0 0 96 [(0, .ref x0), (2, .int x2), (4, .int z8)] [] w (rIs none w0) := by
      intro h
      rw [eK96] at h
      refine rv_aload_n 0 dX1_judgeTwist_96 rfl ?_
      refine rv_getI ff_X1_16 dX1_judgeTwist_97 h (fun v9 h => ?_)
      obtain ⟨K114, eK114, h⟩ := rLetE h
      have hK114 : ∀ (w : rW), K114 w = some w0 → rEv mX1_judgeTwist 2 0 0 114 [(0, .ref x0)] [] w (rIs none w0) := by
        intro w10 h
        rw [eK114] at h
        refine rv_aload_n 0 dX1_judgeTwist_114 rfl ?_
        refine rv_dup dX1_judgeTwist_115 rfl ?_
        refine rv_getI ff_X1_16 dX1_judgeTwist_116 h (fun v11 h => ?_)
        refine rv_iconst (v := 1) dX1_judgeTwist_119 (by decide) ?_
        refine rv_iadd dX1_judgeTwist_120 ?_
        refine rv_putI ff_X1_16 (fp_X1_1 _) dX1_judgeTwist_121 h (fun w12 h => ?_)
        exact rv_vret dX1_judgeTwist_124 rfl (rRetV h)
      clear eK114
      refine rv_if_ne 114 dX1_judgeTwist_100 (by decide) (fun c13 => ?_) (fun c13 => ?_)
      · replace h := rIfF h c13
        exact rv_sub [0] rfl (hK114 w h)
      · replace h := rIfT h c13
        refine rv_aload_n 0 dX1_judgeTwist_103 rfl ?_
        refine rv_iload_n 1 dX1_judgeTwist_104 rfl ?_
        refine rv_putI ff_X1_20 (fp_X1_2 _) dX1_judgeTwist_105 h (fun w14 h => ?_)
        refine rv_aload_n 0 dX1_judgeTwist_108 rfl ?_
        refine rv_iload 2 dX1_judgeTwist_109 rfl ?_
        refine rv_putI ff_X1_23 (fp_X1_3 _) dX1_judgeTwist_111 h (fun w15 h => ?_)
        exact rv_sub [0] rfl (hK114 w15 h)
    clear eK96
    exact rv_sub [2, 3, 4, 1, 0] rfl (E_X1_judgeTwist_34 x0 x1 x2 z8 w hK96 2000 1 h)
  clear eK29
  refine rv_if_eq 28 dX1_judgeTwist_21 (by decide) (fun c33 => ?_) (fun c33 => ?_)
  · replace h := rIfT h c33
    refine rv_iconst (v := 1) dX1_judgeTwist_28 (by decide) ?_
    exact rv_sub [1, 2, 3] rfl (hK29 1 h)
  · replace h := rIfF h c33
    refine rv_iconst (v := (-1)) dX1_judgeTwist_24 (by decide) ?_
    refine rv_goto 29 dX1_judgeTwist_25 (by decide) ?_
    exact rv_sub [1, 2, 3] rfl (hK29 (-1) h)
set_option maxRecDepth 20000 in
theorem E_X1_leastPoint {x0 : Nat} {x1 : Int32} {r0 : Int32} {w : rW} (h : J_X1_leastPoint x0 x1 w = some r0) : (∃ fs, w[x0]? = some (cO 1 fs)) ∧ rMet mX1_leastPoint 0 0 0 [.ref x0, .int x1] w (rIs (some (.int r0)) w) := by
  unfold J_X1_leastPoint at h
  obtain ⟨hrc, h⟩ := rRc_some h
  refine ⟨hrc, ?_⟩
  refine rMet_of (by decide) rfl ?_
  refine rv_iconst (v := 2) dX1_leastPoint_0 (by decide) ?_
  refine rv_aload_n 0 dX1_leastPoint_1 rfl ?_
  refine rv_getR ff_X1_10 dX1_leastPoint_2 h (fun a1 h => ?_)
  refine rv_getI ff_X1_60 dX1_leastPoint_5 h (fun v2 h => ?_)
  refine rv_imul dX1_leastPoint_8 ?_
  refine rv_letI h (fun v3 h => ?_)
  refine rv_istore_n (l2 := [(2, .int v3), (0, .ref x0), (1, .int x1)]) dX1_leastPoint_9 rfl rfl ?_
  refine rv_iload_n 2 dX1_leastPoint_10 rfl ?_
  refine rv_if_eq 19 dX1_leastPoint_11 (by decide) (fun c4 => ?_) (fun c4 => ?_)
  · replace h := rIfT h c4
    refine rv_iconst (v := 0) dX1_leastPoint_19 (by decide) ?_
    exact rv_iret .int dX1_leastPoint_20 rfl rfl (rRetIp h)
  · replace h := rIfF h c4
    refine rv_iload_n 2 dX1_leastPoint_14 rfl ?_
    refine rv_iload_n 0 dX1_leastPoint_15 rfl ?_
    refine rv_icmp_ne 21 dX1_leastPoint_16 (by decide) (fun c5 => ?_) (fun c5 => ?_)
    · replace h := rIfF h c5
      refine rv_iload_n 2 dX1_leastPoint_21 rfl ?_
      refine rv_iload_n 0 dX1_leastPoint_22 rfl ?_
      obtain ⟨K37, eK37, h⟩ := rLetE h
      have hK37 : ∀ (z0 : Int32), K37 z0 = some r0 → rEv mX1_leastPoint 0 0 0 37 [(0, .ref x0), (1, .int x1)] [.int z0] w (rIs (some (.int r0)) w) := by
        intro z6 h
        rw [eK37] at h
        refine rv_istore_n (l2 := [(3, .int z6), (0, .ref x0), (1, .int x1)]) dX1_leastPoint_37 rfl rfl ?_
        refine rv_aload_n 1 dX1_leastPoint_38 rfl ?_
        refine rv_getR ff_X1_10 dX1_leastPoint_39 h (fun a7 h => ?_)
        refine rv_getR ff_X1_56 dX1_leastPoint_42 h (fun a8 h => ?_)
        refine rv_iload_n 0 dX1_leastPoint_45 rfl ?_
        obtain ⟨K58, eK58, h⟩ := rLetE h
        have hK58 : ∀ (z0 : Nat) (z1 : Int32), K58 z0 z1 = some r0 → rEv mX1_leastPoint 0 0 0 58 [] [.int z1, .ref z0] w (rIs (some (.int r0)) w) := by
          intro z9 z10 h
          rw [eK58] at h
          refine rv_iaload dX1_leastPoint_58 h (fun v11 h => ?_)
          refine rv_iconst (v := 1) dX1_leastPoint_59 (by decide) ?_
          refine rv_iadd dX1_leastPoint_60 ?_
          exact rv_iret .int dX1_leastPoint_61 rfl rfl (rRetIp h)
        clear eK58
        refine rv_if_eq 55 dX1_leastPoint_46 (by decide) (fun c12 => ?_) (fun c12 => ?_)
        · replace h := rIfT h c12
          refine rv_iload_n 2 dX1_leastPoint_55 rfl ?_
          refine rv_iconst (v := 1) dX1_leastPoint_56 (by decide) ?_
          refine rv_isub dX1_leastPoint_57 ?_
          exact rv_sub [] rfl (hK58 a8 (x1 - 1) h)
        · replace h := rIfF h c12
          refine rv_iload_n 2 dX1_leastPoint_49 rfl ?_
          refine rv_iconst (v := 2) dX1_leastPoint_50 (by decide) ?_
          refine rv_isub dX1_leastPoint_51 ?_
          refine rv_goto 58 dX1_leastPoint_52 (by decide) ?_
          exact rv_sub [] rfl (hK58 a8 (x1 - 2) h)
      clear eK37
      obtain ⟨K36, eK36, h⟩ := rLetE h
      have hK36 : K36 = some r0 → rEv mX1_leastPoint 0 0 0 36 [(0, .ref x0), (1, .int x1)] [] w (rIs (some (.int r0)) w) := by
        intro h
        rw [eK36] at h
        refine rv_iconst (v := 0) dX1_leastPoint_36 (by decide) ?_
        exact rv_sub [0, 1] rfl (hK37 0 h)
      clear eK36
      refine rv_icmp_ge 36 dX1_leastPoint_23 (by decide) (fun c13 => ?_) (fun c13 => ?_)
      · replace h := rIfT h c13
        exact rv_sub [1, 2] rfl (hK36 h)
      · replace h := rIfF h c13
        refine rv_iload_n 2 dX1_leastPoint_26 rfl ?_
        refine rv_iconst (v := 2) dX1_leastPoint_27 (by decide) ?_
        refine rv_iremB dX1_leastPoint_28 h (fun v14 h => ?_)
        refine rv_if_ne 36 dX1_leastPoint_29 (by decide) (fun c15 => ?_) (fun c15 => ?_)
        · replace h := rIfF h c15
          exact rv_sub [1, 2] rfl (hK36 h)
        · replace h := rIfT h c15
          refine rv_iconst (v := 1) dX1_leastPoint_32 (by decide) ?_
          refine rv_goto 37 dX1_leastPoint_33 (by decide) ?_
          exact rv_sub [1, 2] rfl (hK37 1 h)
    · replace h := rIfT h c5
      refine rv_iconst (v := 0) dX1_leastPoint_19 (by decide) ?_
      exact rv_iret .int dX1_leastPoint_20 rfl rfl (rRetIp h)
set_option maxRecDepth 20000 in
theorem E_X1_choosePoints_26 {w0 : rW} (fr : Nat) {rec : Nat → Nat → Int32 → Int32 → Int32 → rW → Option rW} (hrec : ∀ (a0 : Nat) (a1 : Nat) (a2 : Int32) (a3 : Int32) (a4 : Int32) (w1 w2 : rW), rec a0 a1 a2 a3 a4 w1 = some w2 → rMet mX1_choosePoints (3 + fr) 0 0 [.ref a0, .ref a1, .int a2, .int a3, .int a4] w1 (rIs none w2))  (x0 : Nat) (x1 : Nat) (x2 : Int32) (x3 : Int32) (x4 : Int32)   : ∀ (f : Nat) (x5 : Int32) (w : rW), J_X1_choosePoints_26 rec x0 x1 x2 x3 x4 f x5 w = some w0 → rEv mX1_choosePoints (3 + (fr + 1)) 0 0 26 [(0, .ref x0), (1, .ref x1), (2, .int x2), (3, .int x3), (4, .int x4), (5, .int x5)] [] w (rIs none w0) := by
  intro f
  induction f with
  | zero =>
    intro x5 w h
    exact absurd (show (none : Option rW) = some w0 from h) (by simp)
  | succ f ih =>
    intro x5 w h
    rw [J_X1_choosePoints_26] at h
    refine rv_iload 5 dX1_choosePoints_26 rfl ?_
    refine rv_aload_n 1 dX1_choosePoints_28 rfl ?_
    refine rv_getR ff_X1_26 dX1_choosePoints_29 h (fun a6 h => ?_)
    refine rv_getI ff_X1_51 dX1_choosePoints_32 h (fun v7 h => ?_)
    refine rv_icmp_ge 88 dX1_choosePoints_35 (by decide) (fun c8 => ?_) (fun c8 => ?_)
    · replace h := rIfT h c8
      exact rv_vret dX1_choosePoints_88 rfl (rRetV h)
    · replace h := rIfF h c8
      refine rv_iload_n 3 dX1_choosePoints_38 rfl ?_
      refine rv_iload 5 dX1_choosePoints_39 rfl ?_
      refine rv_ishr dX1_choosePoints_41 ?_
      refine rv_iconst (v := 1) dX1_choosePoints_42 (by decide) ?_
      refine rv_iand dX1_choosePoints_43 ?_
      obtain ⟨K82, eK82, h⟩ := rLetE h
      have hK82 : ∀ (w : rW), K82 w = some w0 → rEv mX1_choosePoints (3 + (fr + 1)) 0 0 82 [(0, .ref x0), (1, .ref x1), (2, .int x2), (3, .int x3), (4, .int x4), (5, .int x5)] [] w (rIs none w0) := by
        intro w9 h
        rw [eK82] at h
        obtain ⟨v10, ev10, h⟩ := rLetE h
        refine rv_iinc (v := v10) (l2 := [(5, .int v10), (0, .ref x0), (1, .ref x1), (2, .int x2), (3, .int x3), (4, .int x4)]) 5 dX1_choosePoints_82 rfl (by rw [ev10]; rfl) rfl rfl ?_
        clear ev10
        refine rv_goto 26 dX1_choosePoints_85 (by decide) ?_
        exact rv_sub [1, 2, 3, 4, 5, 0] rfl (ih v10 w9 h)
      clear eK82
      refine rv_if_ne 82 dX1_choosePoints_44 (by decide) (fun c11 => ?_) (fun c11 => ?_)
      · replace h := rIfF h c11
        exact rv_sub [0, 1, 2, 3, 4, 5] rfl (hK82 w h)
      · replace h := rIfT h c11
        refine rv_aload_n 0 dX1_choosePoints_47 rfl ?_
        refine rv_getR ff_X1_10 dX1_choosePoints_48 h (fun a12 h => ?_)
        refine rv_getR ff_X1_56 dX1_choosePoints_51 h (fun a13 h => ?_)
        refine rv_iload_n 2 dX1_choosePoints_54 rfl ?_
        refine rv_iload 5 dX1_choosePoints_55 rfl ?_
        refine rv_iastore dX1_choosePoints_57 h (fun w14 h => ?_)
        refine rv_aload_n 0 dX1_choosePoints_58 rfl ?_
        refine rv_aload_n 1 dX1_choosePoints_59 rfl ?_
        refine rv_iload_n 2 dX1_choosePoints_60 rfl ?_
        refine rv_iconst (v := 1) dX1_choosePoints_61 (by decide) ?_
        refine rv_iadd dX1_choosePoints_62 ?_
        refine rv_iload_n 3 dX1_choosePoints_63 rfl ?_
        refine rv_iconst (v := 1) dX1_choosePoints_64 (by decide) ?_
        refine rv_iload 5 dX1_choosePoints_65 rfl ?_
        refine rv_ishl dX1_choosePoints_67 ?_
        refine rv_ior dX1_choosePoints_68 ?_
        refine rv_bipush (v := 10) dX1_choosePoints_69 (by decide) ?_
        refine rv_iload 4 dX1_choosePoints_71 rfl ?_
        refine rv_imul dX1_choosePoints_73 ?_
        refine rv_iload 5 dX1_choosePoints_74 rfl ?_
        refine rv_iadd dX1_choosePoints_76 ?_
        refine rv_iconst (v := 1) dX1_choosePoints_77 (by decide) ?_
        refine rv_iadd dX1_choosePoints_78 ?_
        obtain ⟨w16, h15, h⟩ := rBind h
        refine rv_callSv (k3 := 0) (n3 := 0) (st2 := []) (As := [.ref x0, .ref x1, .int (x2 + 1), .int (x3 ||| (1 <<< (x5 &&& 31))), .int (((10 * x4) + x5) + 1)]) caX1_choosePoints csX1_choosePoints ml_X1_36 dX1_choosePoints_79 (Nat.ble_eq_true_of_le (by omega)) (hrec _ _ _ _ _ _ _ h15) rfl rfl rfl rfl rfl ?_
        clear h15
        exact rv_sub [0, 1, 2, 3, 4, 5] rfl (hK82 w16 h)
set_option maxRecDepth 20000 in
theorem E_X1_choosePoints : ∀ (f : Nat) {x0 : Nat} {x1 : Nat} {x2 : Int32} {x3 : Int32} {x4 : Int32} {w w0 : rW}, J_X1_choosePoints f x0 x1 x2 x3 x4 w = some w0 → rMet mX1_choosePoints (3 + f) 0 0 [.ref x0, .ref x1, .int x2, .int x3, .int x4] w (rIs none w0) := by
  intro f
  induction f with
  | zero =>
    intro x0 x1 x2 x3 x4 w w0 h
    exact absurd (show (none : Option rW) = some w0 from h) (by simp)
  | succ f ih =>
    intro x0 x1 x2 x3 x4 w w0 h
    have hrec : ∀ (a0 : Nat) (a1 : Nat) (a2 : Int32) (a3 : Int32) (a4 : Int32) (w1 w2 : rW), J_X1_choosePoints f a0 a1 a2 a3 a4 w1 = some w2 → rMet mX1_choosePoints (3 + f) 0 0 [.ref a0, .ref a1, .int a2, .int a3, .int a4] w1 (rIs none w2) := fun a0 a1 a2 a3 a4 w1 w2 h => ih h
    rw [J_X1_choosePoints] at h
    refine rMet_of (by decide) rfl ?_
    refine rv_iload_n 2 dX1_choosePoints_0 rfl ?_
    refine rv_aload_n 0 dX1_choosePoints_1 rfl ?_
    refine rv_getR ff_X1_10 dX1_choosePoints_2 h (fun a1 h => ?_)
    refine rv_getI ff_X1_40 dX1_choosePoints_5 h (fun v2 h => ?_)
    refine rv_icmp_lt 19 dX1_choosePoints_8 (by decide) (fun c3 => ?_) (fun c3 => ?_)
    · replace h := rIfT h c3
      refine rv_aload_n 0 dX1_choosePoints_19 rfl ?_
      refine rv_iload_n 2 dX1_choosePoints_20 rfl ?_
      obtain ⟨v5, h4, h⟩ := rBind h
      refine rv_callVr (k3 := 0) (n3 := 0) (st2 := []) caX1_leastPoint cvX1_leastPoint ml_X1_47 dX1_choosePoints_21 (Nat.ble_eq_true_of_le (by omega)) (E_X1_leastPoint h4).2 (E_X1_leastPoint h4).1 rfl rfl rfl rfl rfl ?_
      clear h4
      refine rv_istore (l2 := [(5, .int v5), (0, .ref x0), (1, .ref x1), (2, .int x2), (3, .int x3), (4, .int x4)]) dX1_choosePoints_24 rfl rfl ?_
      exact rv_sub [1, 2, 3, 4, 5, 0] rfl (E_X1_choosePoints_26 f hrec x0 x1 x2 x3 x4 2000 v5 w h)
    · replace h := rIfF h c3
      refine rv_aload_n 0 dX1_choosePoints_11 rfl ?_
      refine rv_aload_n 1 dX1_choosePoints_12 rfl ?_
      refine rv_iload 4 dX1_choosePoints_13 rfl ?_
      obtain ⟨w18, h17, h⟩ := rBind h
      refine rv_callVv (k3 := 0) (n3 := 0) (st2 := []) caX1_judgeTwist cvX1_judgeTwist ml_X1_43 dX1_choosePoints_15 (Nat.ble_eq_true_of_le (by omega)) (E_X1_judgeTwist h17).2 (E_X1_judgeTwist h17).1 rfl rfl rfl rfl rfl ?_
      clear h17
      exact rv_vret dX1_choosePoints_18 rfl (rRetV h)
set_option maxRecDepth 20000 in
theorem E_X1_look {x0 : Nat} {x1 : Nat} {w0 : rW} {w : rW} (h : J_X1_look x0 x1 w = some w0) : (∃ fs, w[x0]? = some (cO 1 fs)) ∧ rMet mX1_look 44 0 0 [.ref x0, .ref x1] w (rIs none w0) := by
  unfold J_X1_look at h
  obtain ⟨hrc, h⟩ := rRc_some h
  refine ⟨hrc, ?_⟩
  refine rMet_of (by decide) rfl ?_
  refine rv_aload_n 0 dX1_look_0 rfl ?_
  refine rv_iconst (v := 0) dX1_look_1 (by decide) ?_
  refine rv_putI ff_X1_16 (fp_X1_1 _) dX1_look_2 h (fun w1 h => ?_)
  refine rv_aload_n 0 dX1_look_5 rfl ?_
  refine rv_getR ff_X1_10 dX1_look_6 h (fun a2 h => ?_)
  refine rv_aload_n 1 dX1_look_9 rfl ?_
  refine rv_getR ff_X1_26 dX1_look_10 h (fun a3 h => ?_)
  obtain ⟨w5, h4, h⟩ := rBind h
  refine rv_callVv (k3 := 0) (n3 := 0) (st2 := []) caX8_becomeFor cvX8_becomeFor ml_X1_32 dX1_look_13 rfl (E_X8_becomeFor h4).2 (E_X8_becomeFor h4).1 rfl rfl rfl rfl rfl ?_
  clear h4
  refine rv_aload_n 0 dX1_look_16 rfl ?_
  refine rv_aload_n 1 dX1_look_17 rfl ?_
  refine rv_iconst (v := 0) dX1_look_18 (by decide) ?_
  refine rv_iconst (v := 0) dX1_look_19 (by decide) ?_
  refine rv_iconst (v := 0) dX1_look_20 (by decide) ?_
  obtain ⟨w7, h6, h⟩ := rBind h
  refine rv_callSv (k3 := 0) (n3 := 0) (st2 := []) (As := [.ref x0, .ref x1, .int 0, .int 0, .int 0]) caX1_choosePoints csX1_choosePoints ml_X1_36 dX1_look_21 rfl (E_X1_choosePoints 40 h6) rfl rfl rfl rfl rfl ?_
  clear h6
  exact rv_vret dX1_look_24 rfl (rRetV h)
set_option maxRecDepth 20000 in
theorem E_X2_init {x0 : Nat} {w0 : rW} {w : rW} (h : J_X2_init x0 w = some w0) : rMet mX2_init 1 4 66 [.ref x0] w (rIs none w0) := by
  unfold J_X2_init at h
  refine rMet_of (by decide) rfl ?_
  refine rv_aload_n 0 dX2_init_0 rfl ?_
  refine rv_objInit ml_X2_3 im_java_lang_Object__init_ co_object dX2_init_1 rfl rfl ?_
  refine rv_aload_n 0 dX2_init_4 rfl ?_
  refine rv_iconst (v := 0) dX2_init_5 (by decide) ?_
  refine rv_putI ff_X2_9 (fp_X2_0 _) dX2_init_6 h (fun w1 h => ?_)
  refine rv_aload_n 0 dX2_init_9 rfl ?_
  refine rv_iconst (v := 0) dX2_init_10 (by decide) ?_
  refine rv_putI ff_X2_15 (fp_X2_1 _) dX2_init_11 h (fun w2 h => ?_)
  refine rv_aload_n 0 dX2_init_14 rfl ?_
  refine rv_iconst (v := 0) dX2_init_15 (by decide) ?_
  refine rv_putI ff_X2_18 (fp_X2_2 _) dX2_init_16 h (fun w3 h => ?_)
  refine rv_aload_n 0 dX2_init_19 rfl ?_
  refine rv_iconst (v := 0) dX2_init_20 (by decide) ?_
  refine rv_putI ff_X2_21 (fp_X2_3 _) dX2_init_21 h (fun w4 h => ?_)
  refine rv_aload_n 0 dX2_init_24 rfl ?_
  refine rv_bipush (v := 20) dX2_init_25 (by decide) ?_
  refine rv_newJB (b := 20) (by decide) dX2_init_27 h (fun a5 w6 h => ?_)
  refine rv_putFA ff_X2_24 fp_X2_4 dX2_init_29 rfl h (fun w7 h => ?_)
  refine rv_aload_n 0 dX2_init_32 rfl ?_
  refine rv_bipush (v := 6) dX2_init_33 (by decide) ?_
  refine rv_newJB (b := 6) (by decide) dX2_init_35 h (fun a8 w9 h => ?_)
  refine rv_putFA ff_X2_28 fp_X2_5 dX2_init_37 rfl h (fun w10 h => ?_)
  refine rv_aload_n 0 dX2_init_40 rfl ?_
  refine rv_bipush (v := 20) dX2_init_41 (by decide) ?_
  refine rv_newIB (b := 20) (by decide) dX2_init_43 h (fun a11 w12 h => ?_)
  refine rv_putFA ff_X2_31 fp_X2_6 dX2_init_45 rfl h (fun w13 h => ?_)
  refine rv_aload_n 0 dX2_init_48 rfl ?_
  refine rv_bipush (v := 20) dX2_init_49 (by decide) ?_
  refine rv_newIB (b := 20) (by decide) dX2_init_51 h (fun a14 w15 h => ?_)
  refine rv_putFA ff_X2_35 fp_X2_7 dX2_init_53 rfl h (fun w16 h => ?_)
  exact rv_vret dX2_init_56 rfl (rRetV h)
set_option maxRecDepth 20000 in
theorem E_X2_isParts {x0 : Int32} {r0 : Bool} {w : rW} (h : J_X2_isParts x0 w = some r0) : rMet mX2_isParts 0 0 0 [.int x0] w (rIs (some (.int (bi r0))) w) := by
  unfold J_X2_isParts at h
  refine rMet_of (by decide) rfl ?_
  refine rv_iload_n 0 dX2_isParts_0 rfl ?_
  refine rv_iconst (v := 2) dX2_isParts_1 (by decide) ?_
  obtain ⟨K15, eK15, h⟩ := rLetE h
  have hK15 : K15 = some r0 → rEv mX2_isParts 0 0 0 15 [] [] w (rIs (some (.int (bi r0))) w) := by
    intro h
    rw [eK15] at h
    refine rv_iconst (v := 0) dX2_isParts_15 (by decide) ?_
    exact rv_iret .boolean dX2_isParts_16 rfl (by decide) (rRetZp (x := 0) h rfl)
  clear eK15
  refine rv_icmp_lt 15 dX2_isParts_2 (by decide) (fun c1 => ?_) (fun c1 => ?_)
  · replace h := rIfT h c1
    exact rv_sub [] rfl (hK15 h)
  · replace h := rIfF h c1
    refine rv_iload_n 0 dX2_isParts_5 rfl ?_
    refine rv_bipush (v := 6) dX2_isParts_6 (by decide) ?_
    refine rv_icmp_gt 15 dX2_isParts_8 (by decide) (fun c2 => ?_) (fun c2 => ?_)
    · replace h := rIfT h c2
      exact rv_sub [] rfl (hK15 h)
    · replace h := rIfF h c2
      refine rv_iconst (v := 1) dX2_isParts_11 (by decide) ?_
      refine rv_goto 16 dX2_isParts_12 (by decide) ?_
      exact rv_iret .boolean dX2_isParts_16 rfl (by decide) (rRetZp (x := 1) h rfl)
set_option maxRecDepth 20000 in
theorem E_X2_isLookedFor {x0 : Nat} {r0 : Bool} {w : rW} (h : J_X2_isLookedFor x0 w = some r0) : rMet mX2_isLookedFor 0 0 0 [.ref x0] w (rIs (some (.int (bi r0))) w) := by
  unfold J_X2_isLookedFor at h
  refine rMet_of (by decide) rfl ?_
  refine rv_aload_n 0 dX2_isLookedFor_0 rfl ?_
  refine rv_getI ff_X2_38 dX2_isLookedFor_1 h (fun v1 h => ?_)
  refine rv_aload_n 0 dX2_isLookedFor_4 rfl ?_
  refine rv_getI ff_X2_41 dX2_isLookedFor_5 h (fun v2 h => ?_)
  refine rv_aload_n 0 dX2_isLookedFor_8 rfl ?_
  refine rv_getI ff_X2_44 dX2_isLookedFor_9 h (fun v3 h => ?_)
  refine rv_iconst (v := 1) dX2_isLookedFor_12 (by decide) ?_
  refine rv_isub dX2_isLookedFor_13 ?_
  obtain ⟨K24, eK24, h⟩ := rLetE h
  have hK24 : ∀ (z0 : Int32) (z1 : Int32), K24 z0 z1 = some r0 → rEv mX2_isLookedFor 0 0 0 24 [] [.int z1, .int z0] w (rIs (some (.int (bi r0))) w) := by
    intro z4 z5 h
    rw [eK24] at h
    refine rv_icmp_gt 31 dX2_isLookedFor_24 (by decide) (fun c6 => ?_) (fun c6 => ?_)
    · replace h := rIfT h c6
      refine rv_iconst (v := 0) dX2_isLookedFor_31 (by decide) ?_
      exact rv_iret .boolean dX2_isLookedFor_32 rfl (by decide) (rRetZp (x := 0) h rfl)
    · replace h := rIfF h c6
      refine rv_iconst (v := 1) dX2_isLookedFor_27 (by decide) ?_
      refine rv_goto 32 dX2_isLookedFor_28 (by decide) ?_
      exact rv_iret .boolean dX2_isLookedFor_32 rfl (by decide) (rRetZp (x := 1) h rfl)
  clear eK24
  refine rv_icmp_ne 22 dX2_isLookedFor_14 (by decide) (fun c7 => ?_) (fun c7 => ?_)
  · replace h := rIfF h c7
    refine rv_bipush (v := 10) dX2_isLookedFor_22 (by decide) ?_
    exact rv_sub [] rfl (hK24 v1 10 h)
  · replace h := rIfT h c7
    refine rv_bipush (v := 20) dX2_isLookedFor_17 (by decide) ?_
    refine rv_goto 24 dX2_isLookedFor_19 (by decide) ?_
    exact rv_sub [] rfl (hK24 v1 20 h)
set_option maxRecDepth 20000 in
theorem E_X2_firstOf {x0 : Nat} {x1 : Int32} {r0 : Int32} {w : rW} (h : J_X2_firstOf x0 x1 w = some r0) : (∃ fs, w[x0]? = some (cO 2 fs)) ∧ rMet mX2_firstOf 0 0 0 [.ref x0, .int x1] w (rIs (some (.int r0)) w) := by
  unfold J_X2_firstOf at h
  obtain ⟨hrc, h⟩ := rRc_some h
  refine ⟨hrc, ?_⟩
  refine rMet_of (by decide) rfl ?_
  refine rv_iload_n 1 dX2_firstOf_0 rfl ?_
  obtain ⟨K21, eK21, h⟩ := rLetE h
  have hK21 : K21 = some r0 → rEv mX2_firstOf 0 0 0 21 [] [] w (rIs (some (.int r0)) w) := by
    intro h
    rw [eK21] at h
    refine rv_bipush (v := (-5)) dX2_firstOf_21 (by decide) ?_
    exact rv_iret .int dX2_firstOf_23 rfl rfl (rRetIp h)
  clear eK21
  refine rv_if_lt 21 dX2_firstOf_1 (by decide) (fun c1 => ?_) (fun c1 => ?_)
  · replace h := rIfT h c1
    exact rv_sub [] rfl (hK21 h)
  · replace h := rIfF h c1
    refine rv_iload_n 1 dX2_firstOf_4 rfl ?_
    refine rv_aload_n 0 dX2_firstOf_5 rfl ?_
    refine rv_getI ff_X2_21 dX2_firstOf_6 h (fun v2 h => ?_)
    refine rv_icmp_ge 21 dX2_firstOf_9 (by decide) (fun c3 => ?_) (fun c3 => ?_)
    · replace h := rIfT h c3
      exact rv_sub [] rfl (hK21 h)
    · replace h := rIfF h c3
      refine rv_aload_n 0 dX2_firstOf_12 rfl ?_
      refine rv_getR ff_X2_35 dX2_firstOf_13 h (fun a4 h => ?_)
      refine rv_iload_n 1 dX2_firstOf_16 rfl ?_
      refine rv_iaload dX2_firstOf_17 h (fun v5 h => ?_)
      refine rv_goto 23 dX2_firstOf_18 (by decide) ?_
      exact rv_iret .int dX2_firstOf_23 rfl rfl (rRetIp h)
set_option maxRecDepth 20000 in
theorem E_X2_startTallies_34 {w0 : rW}  (x0 : Nat) (x2 : Int64)   : ∀ (f : Nat) (x4 : Int32) (w : rW), J_X2_startTallies_34 x0 x2 f x4 w = some w0 → rEv mX2_startTallies 0 0 0 34 [(0, .ref x0), (2, .long x2), (4, .int x4)] [] w (rIs none w0) := by
  intro f
  induction f with
  | zero =>
    intro x4 w h
    exact absurd (show (none : Option rW) = some w0 from h) (by simp)
  | succ f ih =>
    intro x4 w h
    rw [J_X2_startTallies_34] at h
    refine rv_iload 2 dX2_startTallies_34 rfl ?_
    refine rv_aload_n 0 dX2_startTallies_36 rfl ?_
    refine rv_getI ff_X2_18 dX2_startTallies_37 h (fun v2 h => ?_)
    refine rv_icmp_ge 57 dX2_startTallies_40 (by decide) (fun c3 => ?_) (fun c3 => ?_)
    · replace h := rIfT h c3
      exact rv_vret dX2_startTallies_57 rfl (rRetV h)
    · replace h := rIfF h c3
      refine rv_aload_n 0 dX2_startTallies_43 rfl ?_
      refine rv_getR ff_X2_28 dX2_startTallies_44 h (fun a4 h => ?_)
      refine rv_iload 2 dX2_startTallies_47 rfl ?_
      refine rv_lload_n 1 dX2_startTallies_49 rfl ?_
      refine rv_lastore dX2_startTallies_50 h (fun w5 h => ?_)
      obtain ⟨v6, ev6, h⟩ := rLetE h
      refine rv_iinc (v := v6) (l2 := [(4, .int v6), (0, .ref x0), (2, .long x2)]) 2 dX2_startTallies_51 rfl (by rw [ev6]; rfl) rfl rfl ?_
      clear ev6
      refine rv_goto 34 dX2_startTallies_54 (by decide) ?_
      exact rv_sub [1, 2, 0] rfl (ih v6 w5 h)
set_option maxRecDepth 20000 in
theorem E_X2_startTallies_5 {w0 : rW}  (x0 : Nat) (x1 : Int32) (w : rW)  {K31 : Int64 → Option rW} (hK31 : ∀ (y2 : Int64), K31 y2 = some w0 → rEv mX2_startTallies 0 0 0 31 [(0, .ref x0), (2, .long y2)] [] w (rIs none w0)) : ∀ (f : Nat) (x2 : Int64) (x4 : Int32), J_X2_startTallies_5 x1 K31 f x2 x4 = some w0 → rEv mX2_startTallies 0 0 0 5 [(0, .ref x0), (1, .int x1), (2, .long x2), (4, .int x4)] [] w (rIs none w0) := by
  intro f
  induction f with
  | zero =>
    intro x2 x4 h
    exact absurd (show (none : Option rW) = some w0 from h) (by simp)
  | succ f ih =>
    intro x2 x4 h
    rw [J_X2_startTallies_5] at h
    refine rv_iload 3 dX2_startTallies_5 rfl ?_
    refine rv_bipush (v := 15) dX2_startTallies_7 (by decide) ?_
    refine rv_icmp_ge 31 dX2_startTallies_9 (by decide) (fun c7 => ?_) (fun c7 => ?_)
    · replace h := rIfT h c7
      exact rv_sub [0, 2] rfl (hK31 x2 h)
    · replace h := rIfF h c7
      refine rv_lload_n 2 dX2_startTallies_12 rfl ?_
      refine rv_bipush (v := 7) dX2_startTallies_13 (by decide) ?_
      refine rv_iload_n 1 dX2_startTallies_15 rfl ?_
      refine rv_isub dX2_startTallies_16 ?_
      refine rv_i2l dX2_startTallies_17 ?_
      refine rv_iconst (v := 4) dX2_startTallies_18 (by decide) ?_
      refine rv_iload 3 dX2_startTallies_19 rfl ?_
      refine rv_imul dX2_startTallies_21 ?_
      refine rv_lshl dX2_startTallies_22 ?_
      refine rv_lor dX2_startTallies_23 ?_
      refine rv_letJ h (fun v8 h => ?_)
      refine rv_lstore_n (l2 := [(2, .long v8), (0, .ref x0), (1, .int x1), (4, .int x4)]) dX2_startTallies_24 rfl rfl ?_
      obtain ⟨v9, ev9, h⟩ := rLetE h
      refine rv_iinc (v := v9) (l2 := [(4, .int v9), (2, .long v8), (0, .ref x0), (1, .int x1)]) 3 dX2_startTallies_25 rfl (by rw [ev9]; rfl) rfl rfl ?_
      clear ev9
      refine rv_goto 5 dX2_startTallies_28 (by decide) ?_
      exact rv_sub [2, 3, 1, 0] rfl (ih v8 v9 h)
set_option maxRecDepth 20000 in
theorem E_X2_startTallies {x0 : Nat} {x1 : Int32} {w0 : rW} {w : rW} (h : J_X2_startTallies x0 x1 w = some w0) : (∃ fs, w[x0]? = some (cO 2 fs)) ∧ rMet mX2_startTallies 0 0 0 [.ref x0, .int x1] w (rIs none w0) := by
  unfold J_X2_startTallies at h
  obtain ⟨hrc, h⟩ := rRc_some h
  refine ⟨hrc, ?_⟩
  refine rMet_of (by decide) rfl ?_
  refine rv_lconst (v := 0) dX2_startTallies_0 (by decide) ?_
  refine rv_lstore_n (l2 := [(2, .long 0), (0, .ref x0), (1, .int x1)]) dX2_startTallies_1 rfl rfl ?_
  refine rv_iconst (v := 0) dX2_startTallies_2 (by decide) ?_
  refine rv_istore (l2 := [(4, .int 0), (2, .long 0), (0, .ref x0), (1, .int x1)]) dX2_startTallies_3 rfl rfl ?_
  obtain ⟨K31, eK31, h⟩ := rLetE h
  have hK31 : ∀ (y2 : Int64), K31 y2 = some w0 → rEv mX2_startTallies 0 0 0 31 [(0, .ref x0), (2, .long y2)] [] w (rIs none w0) := by
    intro x2_1 h
    rw [eK31] at h
    refine rv_iconst (v := 0) dX2_startTallies_31 (by decide) ?_
    refine rv_istore (l2 := [(4, .int 0), (0, .ref x0), (2, .long x2_1)]) dX2_startTallies_32 rfl rfl ?_
    exact rv_sub [1, 2, 0] rfl (E_X2_startTallies_34 x0 x2_1 2000 0 w h)
  clear eK31
  exact rv_sub [2, 3, 1, 0] rfl (E_X2_startTallies_5 x0 x1 w hK31 2000 0 0 h)
set_option maxRecDepth 20000 in
theorem E_X2_stepOfPairs_5 {r0 : Int64}  (x0 : Nat) (x1 : Int32) (x2 : Int32) (w : rW)   : ∀ (f : Nat) (x3 : Int64) (x5 : Int32), J_X2_stepOfPairs_5 x0 x1 x2 w f x3 x5 = some r0 → rEv mX2_stepOfPairs 1 0 0 5 [(0, .ref x0), (1, .int x1), (2, .int x2), (3, .long x3), (5, .int x5)] [] w (rIs (some (.long r0)) w) := by
  intro f
  induction f with
  | zero =>
    intro x3 x5 h
    exact absurd (show (none : Option Int64) = some r0 from h) (by simp)
  | succ f ih =>
    intro x3 x5 h
    rw [J_X2_stepOfPairs_5] at h
    refine rv_iload 4 dX2_stepOfPairs_5 rfl ?_
    refine rv_iload_n 2 dX2_stepOfPairs_7 rfl ?_
    refine rv_icmp_ge 46 dX2_stepOfPairs_8 (by decide) (fun c1 => ?_) (fun c1 => ?_)
    · replace h := rIfT h c1
      refine rv_lload_n 3 dX2_stepOfPairs_46 rfl ?_
      exact rv_lret dX2_stepOfPairs_47 rfl (rRetJp h)
    · replace h := rIfF h c1
      refine rv_aload_n 0 dX2_stepOfPairs_11 rfl ?_
      refine rv_iload_n 1 dX2_stepOfPairs_12 rfl ?_
      refine rv_iconst (v := 1) dX2_stepOfPairs_13 (by decide) ?_
      refine rv_iload 4 dX2_stepOfPairs_14 rfl ?_
      refine rv_ishl dX2_stepOfPairs_16 ?_
      obtain ⟨b3, h2, h⟩ := rBind h
      refine rv_callVr (k3 := 0) (n3 := 0) (st2 := []) caX0_holds cvX0_holds ml_X2_78 dX2_stepOfPairs_17 rfl (E_X0_holds h2).2 (E_X0_holds h2).1 rfl rfl rfl rfl rfl ?_
      clear h2
      obtain ⟨K40, eK40, h⟩ := rLetE h
      have hK40 : ∀ (y3 : Int64), K40 y3 = some r0 → rEv mX2_stepOfPairs 1 0 0 40 [(0, .ref x0), (1, .int x1), (2, .int x2), (3, .long y3), (5, .int x5)] [] w (rIs (some (.long r0)) w) := by
        intro x3_4 h
        rw [eK40] at h
        obtain ⟨v5, ev5, h⟩ := rLetE h
        refine rv_iinc (v := v5) (l2 := [(5, .int v5), (0, .ref x0), (1, .int x1), (2, .int x2), (3, .long x3_4)]) 4 dX2_stepOfPairs_40 rfl (by rw [ev5]; rfl) rfl rfl ?_
        clear ev5
        refine rv_goto 5 dX2_stepOfPairs_43 (by decide) ?_
        exact rv_sub [1, 2, 3, 4, 0] rfl (ih x3_4 v5 h)
      clear eK40
      refine rv_if_eq 40 dX2_stepOfPairs_20 (by decide) (fun c6 => ?_) (fun c6 => ?_)
      · replace h := rIfT h c6
        exact rv_sub [0, 1, 2, 3, 4] rfl (hK40 x3 h)
      · replace h := rIfF h c6
        refine rv_lload_n 3 dX2_stepOfPairs_23 rfl ?_
        refine rv_lconst (v := 1) dX2_stepOfPairs_24 (by decide) ?_
        refine rv_iconst (v := 4) dX2_stepOfPairs_25 (by decide) ?_
        refine rv_iload_n 2 dX2_stepOfPairs_26 rfl ?_
        refine rv_iload_n 2 dX2_stepOfPairs_27 rfl ?_
        refine rv_iconst (v := 1) dX2_stepOfPairs_28 (by decide) ?_
        refine rv_isub dX2_stepOfPairs_29 ?_
        refine rv_imul dX2_stepOfPairs_30 ?_
        refine rv_iconst (v := 2) dX2_stepOfPairs_31 (by decide) ?_
        refine rv_idivB dX2_stepOfPairs_32 h (fun v7 h => ?_)
        refine rv_iload 4 dX2_stepOfPairs_33 rfl ?_
        refine rv_iadd dX2_stepOfPairs_35 ?_
        refine rv_imul dX2_stepOfPairs_36 ?_
        refine rv_lshl dX2_stepOfPairs_37 ?_
        refine rv_ladd dX2_stepOfPairs_38 ?_
        refine rv_letJ h (fun v8 h => ?_)
        refine rv_lstore_n (l2 := [(3, .long v8), (0, .ref x0), (1, .int x1), (2, .int x2), (5, .int x5)]) dX2_stepOfPairs_39 rfl rfl ?_
        exact rv_sub [1, 2, 3, 0, 4] rfl (hK40 v8 h)

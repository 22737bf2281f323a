set_option maxRecDepth 20000 in
theorem E_X10_opens_29 {w0 : rW} (fr : Nat)  (x0 : Nat) (x2 : Int32) (x5 : Int32)   : ∀ (f : Nat) (x6 : Int32) (w : rW), J_X10_opens_29 x0 x2 x5 f x6 w = some w0 → rEv mX10_opens (3 + (fr + 1)) 0 0 29 [(0, .ref x0), (2, .int x2), (5, .int x5), (6, .int x6)] [] w (rIs none w0) := by
  intro f
  induction f with
  | zero =>
    intro x6 w h
    exact absurd (show (none : Option rW) = some w0 from h) (by simp)
  | succ f ih =>
    intro x6 w h
    rw [J_X10_opens_29] at h
    refine rv_iload 2 dX10_opens_29 rfl ?_
    refine rv_if_eq 86 dX10_opens_31 (by decide) (fun c30 => ?_) (fun c30 => ?_)
    · replace h := rIfT h c30
      exact rv_vret dX10_opens_86 rfl (rRetV h)
    · replace h := rIfF h c30
      refine rv_iload 3 dX10_opens_34 rfl ?_
      refine rv_iconst (v := 2) dX10_opens_36 (by decide) ?_
      refine rv_icmp_ge 86 dX10_opens_37 (by decide) (fun c31 => ?_) (fun c31 => ?_)
      · replace h := rIfT h c31
        exact rv_vret dX10_opens_86 rfl (rRetV h)
      · replace h := rIfF h c31
        refine rv_aload_n 0 dX10_opens_40 rfl ?_
        refine rv_iload 3 dX10_opens_41 rfl ?_
        obtain ⟨b33, h32, h⟩ := rBind h
        refine rv_callVr (k3 := 0) (n3 := 0) (st2 := []) caX10_isOpen cvX10_isOpen ml_X10_301 dX10_opens_43 (Nat.ble_eq_true_of_le (by omega)) (E_X10_isOpen h32).2 (E_X10_isOpen h32).1 rfl rfl rfl rfl rfl ?_
        clear h32
        obtain ⟨K80, eK80, h⟩ := rLetE h
        have hK80 : ∀ (w : rW), K80 w = some w0 → rEv mX10_opens (3 + (fr + 1)) 0 0 80 [(0, .ref x0), (2, .int x2), (5, .int x5), (6, .int x6)] [] w (rIs none w0) := by
          intro w34 h
          rw [eK80] at h
          obtain ⟨v35, ev35, h⟩ := rLetE h
          refine rv_iinc (v := v35) (l2 := [(6, .int v35), (0, .ref x0), (2, .int x2), (5, .int x5)]) 3 dX10_opens_80 rfl (by rw [ev35]; rfl) rfl rfl ?_
          clear ev35
          refine rv_goto 29 dX10_opens_83 (by decide) ?_
          exact rv_sub [1, 2, 3, 0] rfl (ih v35 w34 h)
        clear eK80
        refine rv_if_ne 52 dX10_opens_46 (by decide) (fun c36 => ?_) (fun c36 => ?_)
        · replace h := rIfF h c36
          refine rv_aload_n 0 dX10_opens_52 rfl ?_
          refine rv_getI ff_X10_304 dX10_opens_53 h (fun v37 h => ?_)
          obtain ⟨K70, eK70, h⟩ := rLetE h
          have hK70 : ∀ (w : rW), K70 w = some w0 → rEv mX10_opens (3 + (fr + 1)) 0 0 70 [(0, .ref x0), (2, .int x2), (5, .int x5), (6, .int x6)] [] w (rIs none w0) := by
            intro w38 h
            rw [eK70] at h
            refine rv_aload_n 0 dX10_opens_70 rfl ?_
            refine rv_dup dX10_opens_71 rfl ?_
            refine rv_getI ff_X10_304 dX10_opens_72 h (fun v39 h => ?_)
            refine rv_iconst (v := 1) dX10_opens_75 (by decide) ?_
            refine rv_iadd dX10_opens_76 ?_
            refine rv_putI ff_X10_304 (fp_X10_39 _) dX10_opens_77 h (fun w40 h => ?_)
            exact rv_sub [0, 1, 2, 3] rfl (hK80 w40 h)
          clear eK70
          refine rv_if_ne 70 dX10_opens_56 (by decide) (fun c41 => ?_) (fun c41 => ?_)
          · replace h := rIfF h c41
            exact rv_sub [0, 1, 2, 3] rfl (hK70 w h)
          · replace h := rIfT h c41
            refine rv_aload_n 0 dX10_opens_59 rfl ?_
            refine rv_iload_n 1 dX10_opens_60 rfl ?_
            refine rv_putI ff_X10_307 (fp_X10_40 _) dX10_opens_61 h (fun w42 h => ?_)
            refine rv_aload_n 0 dX10_opens_64 rfl ?_
            refine rv_iload 3 dX10_opens_65 rfl ?_
            refine rv_putI ff_X10_310 (fp_X10_41 _) dX10_opens_67 h (fun w43 h => ?_)
            exact rv_sub [0, 1, 2, 3] rfl (hK70 w43 h)
        · replace h := rIfT h c36
          refine rv_goto 80 dX10_opens_49 (by decide) ?_
          exact rv_sub [0, 1, 2, 3] rfl (hK80 w h)
set_option maxRecDepth 20000 in
theorem E_X10_opens : ∀ (f : Nat) {x0 : Nat} {x1 : Int32} {x2 : Int32} {x3 : Int32} {w w0 : rW}, J_X10_opens f x0 x1 x2 x3 w = some w0 → (∃ fs, w[x0]? = some (cO 10 fs)) ∧ rMet mX10_opens (3 + f) 0 0 [.ref x0, .int x1, .int x2, .int x3] w (rIs none w0) := by
  intro f
  induction f with
  | zero =>
    intro x0 x1 x2 x3 w w0 h
    exact absurd (show (none : Option rW) = some w0 from h) (by simp)
  | succ f ih =>
    intro x0 x1 x2 x3 w w0 h
    have hrec : ∀ (a0 : Nat) (a1 : Int32) (a2 : Int32) (a3 : Int32) (w1 w2 : rW), J_X10_opens f a0 a1 a2 a3 w1 = some w2 → (∃ fs, w1[a0]? = some (cO 10 fs)) ∧ rMet mX10_opens (3 + f) 0 0 [.ref a0, .int a1, .int a2, .int a3] w1 (rIs none w2) := fun a0 a1 a2 a3 w1 w2 h => ih h
    rw [J_X10_opens] at h
    obtain ⟨hrc, h⟩ := rRc_some h
    refine ⟨hrc, ?_⟩
    refine rMet_of (by decide) rfl ?_
    refine rv_aload_n 0 dX10_opens_0 rfl ?_
    refine rv_getI ff_X10_18 dX10_opens_1 h (fun v1 h => ?_)
    refine rv_aload_n 0 dX10_opens_4 rfl ?_
    refine rv_getI ff_X10_15 dX10_opens_5 h (fun v2 h => ?_)
    refine rv_iadd dX10_opens_8 ?_
    refine rv_iconst (v := 1) dX10_opens_9 (by decide) ?_
    refine rv_iadd dX10_opens_10 ?_
    refine rv_letI h (fun v3 h => ?_)
    refine rv_istore (l2 := [(4, .int v3), (0, .ref x0), (1, .int x1), (2, .int x2), (3, .int x3)]) dX10_opens_11 rfl rfl ?_
    refine rv_iload_n 2 dX10_opens_13 rfl ?_
    refine rv_iload 0 dX10_opens_14 rfl ?_
    refine rv_icmp_ne 87 dX10_opens_16 (by decide) (fun c4 => ?_) (fun c4 => ?_)
    · replace h := rIfF h c4
      refine rv_iconst (v := 0) dX10_opens_87 (by decide) ?_
      refine rv_istore (l2 := [(5, .int 0), (4, .int v3), (0, .ref x0), (1, .int x1), (2, .int x2), (3, .int x3)]) dX10_opens_88 rfl rfl ?_
      refine rv_iload_n 3 dX10_opens_90 rfl ?_
      refine rv_iconst (v := 2) dX10_opens_91 (by decide) ?_
      refine rv_aload_n 2 dX10_opens_92 rfl ?_
      refine rv_getI ff_X10_18 dX10_opens_93 h (fun v5 h => ?_)
      refine rv_imul dX10_opens_96 ?_
      refine rv_iconst (v := 2) dX10_opens_97 (by decide) ?_
      refine rv_iadd dX10_opens_98 ?_
      obtain ⟨K154, eK154, h⟩ := rLetE h
      have hK154 : ∀ (y5 : Int32), K154 y5 = some w0 → rEv mX10_opens (3 + (f + 1)) 0 0 154 [(0, .ref x0), (1, .int x1), (2, .int x2), (3, .int x3), (5, .int y5)] [] w (rIs none w0) := by
        intro x5_6 h
        rw [eK154] at h
        refine rv_iload 4 dX10_opens_154 rfl ?_
        refine rv_iconst (v := 1) dX10_opens_156 (by decide) ?_
        refine rv_iadd dX10_opens_157 ?_
        refine rv_letI h (fun v7 h => ?_)
        refine rv_istore (l2 := [(6, .int v7), (0, .ref x0), (1, .int x1), (2, .int x2), (3, .int x3), (5, .int x5_6)]) dX10_opens_158 rfl rfl ?_
        exact rv_sub [1, 2, 3, 4, 0] rfl (E_X10_opens_160 f hrec x0 x1 x2 x3 2000 v7 w h)
      clear eK154
      refine rv_icmp_ge 136 dX10_opens_99 (by decide) (fun c15 => ?_) (fun c15 => ?_)
      · replace h := rIfT h c15
        refine rv_iload_n 3 dX10_opens_136 rfl ?_
        refine rv_iconst (v := 2) dX10_opens_137 (by decide) ?_
        refine rv_aload_n 2 dX10_opens_138 rfl ?_
        refine rv_getI ff_X10_18 dX10_opens_139 h (fun v16 h => ?_)
        refine rv_imul dX10_opens_142 ?_
        refine rv_iconst (v := 2) dX10_opens_143 (by decide) ?_
        refine rv_iadd dX10_opens_144 ?_
        refine rv_icmp_le 154 dX10_opens_145 (by decide) (fun c17 => ?_) (fun c17 => ?_)
        · replace h := rIfT h c17
          exact rv_sub [2, 3, 4, 5, 0] rfl (hK154 0 h)
        · replace h := rIfF h c17
          refine rv_iload_n 4 dX10_opens_148 rfl ?_
          refine rv_bipush (v := 10) dX10_opens_149 (by decide) ?_
          refine rv_iremB dX10_opens_151 h (fun v18 h => ?_)
          refine rv_istore (l2 := [(5, .int v18), (4, .int v3), (0, .ref x0), (1, .int x1), (2, .int x2), (3, .int x3)]) dX10_opens_152 rfl rfl ?_
          exact rv_sub [2, 3, 4, 5, 0] rfl (hK154 v18 h)
      · replace h := rIfF h c15
        refine rv_iload_n 3 dX10_opens_102 rfl ?_
        refine rv_iconst (v := 2) dX10_opens_103 (by decide) ?_
        refine rv_iremB dX10_opens_104 h (fun v19 h => ?_)
        refine rv_iconst (v := 1) dX10_opens_105 (by decide) ?_
        obtain ⟨K131, eK131, h⟩ := rLetE h
        have hK131 : ∀ (z0 : Int32), K131 z0 = some w0 → rEv mX10_opens (3 + (f + 1)) 0 0 131 [(0, .ref x0), (1, .int x1), (2, .int x2), (3, .int x3)] [.int z0] w (rIs none w0) := by
          intro z20 h
          rw [eK131] at h
          refine rv_istore (l2 := [(5, .int z20), (0, .ref x0), (1, .int x1), (2, .int x2), (3, .int x3)]) dX10_opens_131 rfl rfl ?_
          refine rv_goto 154 dX10_opens_133 (by decide) ?_
          exact rv_sub [1, 2, 3, 4, 0] rfl (hK154 z20 h)
        clear eK131
        refine rv_icmp_ne 116 dX10_opens_106 (by decide) (fun c21 => ?_) (fun c21 => ?_)
        · replace h := rIfF h c21
          refine rv_iload_n 3 dX10_opens_116 rfl ?_
          refine rv_if_le 130 dX10_opens_117 (by decide) (fun c22 => ?_) (fun c22 => ?_)
          · replace h := rIfT h c22
            refine rv_iconst (v := 0) dX10_opens_130 (by decide) ?_
            exact rv_sub [2, 3, 4, 5] rfl (hK131 0 h)
          · replace h := rIfF h c22
            refine rv_iload_n 4 dX10_opens_120 rfl ?_
            refine rv_bipush (v := 10) dX10_opens_121 (by decide) ?_
            refine rv_idivB dX10_opens_123 h (fun v23 h => ?_)
            refine rv_bipush (v := 10) dX10_opens_124 (by decide) ?_
            refine rv_iremB dX10_opens_126 h (fun v24 h => ?_)
            refine rv_goto 131 dX10_opens_127 (by decide) ?_
            exact rv_sub [2, 3, 4, 5] rfl (hK131 v24 h)
        · replace h := rIfT h c21
          refine rv_iload_n 4 dX10_opens_109 rfl ?_
          refine rv_bipush (v := 10) dX10_opens_110 (by decide) ?_
          refine rv_iremB dX10_opens_112 h (fun v25 h => ?_)
          refine rv_goto 131 dX10_opens_113 (by decide) ?_
          exact rv_sub [2, 3, 4, 5] rfl (hK131 v25 h)
    · replace h := rIfT h c4
      refine rv_aload_n 1 dX10_opens_19 rfl ?_
      refine rv_iload_n 3 dX10_opens_20 rfl ?_
      obtain ⟨b27, w28, h26, h⟩ := rB2_some h
      refine rv_callVr (k3 := 0) (n3 := 0) (st2 := []) caX10_twists cvX10_twists ml_X10_157 dX10_opens_21 (Nat.ble_eq_true_of_le (by omega)) (E_X10_twists h26).2 (E_X10_twists h26).1 rfl rfl rfl rfl rfl ?_
      clear h26
      refine rv_letI h (fun v29 h => ?_)
      refine rv_istore (l2 := [(5, .int v29), (4, .int v3), (0, .ref x0), (1, .int x1), (2, .int x2), (3, .int x3)]) dX10_opens_24 rfl rfl ?_
      refine rv_iconst (v := (-1)) dX10_opens_26 (by decide) ?_
      refine rv_istore (l2 := [(6, .int (-1)), (5, .int v29), (4, .int v3), (0, .ref x0), (1, .int x1), (2, .int x2), (3, .int x3)]) dX10_opens_27 rfl rfl ?_
      exact rv_sub [3, 5, 1, 0] rfl (E_X10_opens_29 f x0 x2 v29 2000 (-1) w28 h)
set_option maxRecDepth 20000 in
theorem E_X10_open {x0 : Nat} {x1 : Int32} {r0 : Int32} {w0 : rW} {w : rW} (h : J_X10_open x0 x1 w = some (r0, w0)) : (∃ fs, w[x0]? = some (cO 10 fs)) ∧ rMet mX10_open 44 0 0 [.ref x0, .int x1] w (rIs (some (.int r0)) w0) := by
  unfold J_X10_open at h
  obtain ⟨hrc, h⟩ := rRc_some h
  refine ⟨hrc, ?_⟩
  refine rMet_of (by decide) rfl ?_
  refine rv_iload_n 1 dX10_open_0 rfl ?_
  refine rv_i2l dX10_open_1 ?_
  refine rv_lconst (v := 0) dX10_open_2 (by decide) ?_
  refine rv_ldc2 dX10_open_3 kl_X10_124 ?_
  obtain ⟨b2, h1, h⟩ := rBind h
  refine rv_callSr (k3 := 0) (n3 := 0) (st2 := []) (As := [.long (Int32.toInt64 x1), .long 0, .long 2]) caX10_in csX10_in ml_X10_116 dX10_open_6 rfl (E_X10_in h1) rfl rfl rfl rfl rfl ?_
  clear h1
  refine rv_if_ne 14 dX10_open_9 (by decide) (fun c3 => ?_) (fun c3 => ?_)
  · replace h := rIfF h c3
    refine rv_aload_n 0 dX10_open_14 rfl ?_
    refine rv_iconst (v := 0) dX10_open_15 (by decide) ?_
    refine rv_putI ff_X10_304 (fp_X10_39 _) dX10_open_16 h (fun w4 h => ?_)
    refine rv_aload_n 0 dX10_open_19 rfl ?_
    refine rv_iconst (v := 0) dX10_open_20 (by decide) ?_
    refine rv_iconst (v := 0) dX10_open_21 (by decide) ?_
    refine rv_iconst (v := 0) dX10_open_22 (by decide) ?_
    obtain ⟨w6, h5, h⟩ := rBind h
    refine rv_callVv (k3 := 0) (n3 := 0) (st2 := []) caX10_opens cvX10_opens ml_X10_313 dX10_open_23 rfl (E_X10_opens 40 h5).2 (E_X10_opens 40 h5).1 rfl rfl rfl rfl rfl ?_
    clear h5
    refine rv_iload_n 1 dX10_open_26 rfl ?_
    refine rv_if_ne 35 dX10_open_27 (by decide) (fun c7 => ?_) (fun c7 => ?_)
    · replace h := rIfF h c7
      refine rv_aload_n 0 dX10_open_35 rfl ?_
      refine rv_getI ff_X10_304 dX10_open_36 h (fun v8 h => ?_)
      refine rv_if_ne 47 dX10_open_39 (by decide) (fun c9 => ?_) (fun c9 => ?_)
      · replace h := rIfF h c9
        refine rv_iload_n 1 dX10_open_47 rfl ?_
        refine rv_iconst (v := 1) dX10_open_48 (by decide) ?_
        refine rv_icmp_ne 59 dX10_open_49 (by decide) (fun c10 => ?_) (fun c10 => ?_)
        · replace h := rIfF h c10
          refine rv_aload_n 0 dX10_open_59 rfl ?_
          refine rv_getI ff_X10_310 dX10_open_60 h (fun v11 h => ?_)
          refine rv_iconst (v := 1) dX10_open_63 (by decide) ?_
          refine rv_iadd dX10_open_64 ?_
          exact rv_iret .int dX10_open_65 rfl rfl (rRetIw h)
        · replace h := rIfT h c10
          refine rv_aload_n 0 dX10_open_52 rfl ?_
          refine rv_getI ff_X10_307 dX10_open_53 h (fun v12 h => ?_)
          refine rv_goto 65 dX10_open_56 (by decide) ?_
          exact rv_iret .int dX10_open_65 rfl rfl (rRetIw h)
      · replace h := rIfT h c9
        refine rv_bipush (v := (-5)) dX10_open_42 (by decide) ?_
        refine rv_goto 65 dX10_open_44 (by decide) ?_
        exact rv_iret .int dX10_open_65 rfl rfl (rRetIw h)
    · replace h := rIfT h c7
      refine rv_aload_n 0 dX10_open_30 rfl ?_
      refine rv_getI ff_X10_304 dX10_open_31 h (fun v13 h => ?_)
      exact rv_iret .int dX10_open_34 rfl rfl (rRetIw h)
  · replace h := rIfT h c3
    refine rv_iconst (v := (-1)) dX10_open_12 (by decide) ?_
    exact rv_iret .int dX10_open_13 rfl rfl (rRetIw h)
set_option maxRecDepth 20000 in
theorem E_X10_isLookedFor {x0 : Nat} {r0 : Bool} {w : rW} (h : J_X10_isLookedFor x0 w = some r0) : (∃ fs, w[x0]? = some (cO 10 fs)) ∧ rMet mX10_isLookedFor 0 0 0 [.ref x0] w (rIs (some (.int (bi r0))) w) := by
  unfold J_X10_isLookedFor at h
  obtain ⟨hrc, h⟩ := rRc_some h
  refine ⟨hrc, ?_⟩
  refine rMet_of (by decide) rfl ?_
  refine rv_aload_n 0 dX10_isLookedFor_0 rfl ?_
  refine rv_getI ff_X10_110 dX10_isLookedFor_1 h (fun v1 h => ?_)
  refine rv_aload_n 0 dX10_isLookedFor_4 rfl ?_
  refine rv_getI ff_X10_18 dX10_isLookedFor_5 h (fun v2 h => ?_)
  refine rv_aload_n 0 dX10_isLookedFor_8 rfl ?_
  refine rv_getI ff_X10_15 dX10_isLookedFor_9 h (fun v3 h => ?_)
  refine rv_iconst (v := 1) dX10_isLookedFor_12 (by decide) ?_
  refine rv_isub dX10_isLookedFor_13 ?_
  obtain ⟨K24, eK24, h⟩ := rLetE h
  have hK24 : ∀ (z0 : Int32) (z1 : Int32), K24 z0 z1 = some r0 → rEv mX10_isLookedFor 0 0 0 24 [] [.int z1, .int z0] w (rIs (some (.int (bi r0))) w) := by
    intro z4 z5 h
    rw [eK24] at h
    refine rv_icmp_gt 31 dX10_isLookedFor_24 (by decide) (fun c6 => ?_) (fun c6 => ?_)
    · replace h := rIfT h c6
      refine rv_iconst (v := 0) dX10_isLookedFor_31 (by decide) ?_
      exact rv_iret .boolean dX10_isLookedFor_32 rfl (by decide) (rRetZp (x := 0) h rfl)
    · replace h := rIfF h c6
      refine rv_iconst (v := 1) dX10_isLookedFor_27 (by decide) ?_
      refine rv_goto 32 dX10_isLookedFor_28 (by decide) ?_
      exact rv_iret .boolean dX10_isLookedFor_32 rfl (by decide) (rRetZp (x := 1) h rfl)
  clear eK24
  refine rv_icmp_ne 22 dX10_isLookedFor_14 (by decide) (fun c7 => ?_) (fun c7 => ?_)
  · replace h := rIfF h c7
    refine rv_bipush (v := 10) dX10_isLookedFor_22 (by decide) ?_
    exact rv_sub [] rfl (hK24 v1 10 h)
  · replace h := rIfT h c7
    refine rv_bipush (v := 20) dX10_isLookedFor_17 (by decide) ?_
    refine rv_goto 24 dX10_isLookedFor_19 (by decide) ?_
    exact rv_sub [] rfl (hK24 v1 20 h)
set_option maxRecDepth 20000 in
theorem E_X10_takes_68 {r0 : Bool} {w0 : rW}  (x0 : Nat) (x1 : Int32) (x2 : Int32)   : ∀ (f : Nat) (x4 : Int32) (w : rW), J_X10_takes_68 x0 x1 x2 f x4 w = some (r0, w0) → rEv mX10_takes 2 0 0 68 [(0, .ref x0), (1, .int x1), (2, .int x2), (4, .int x4)] [] w (rIs (some (.int (bi r0))) w0) := by
  intro f
  induction f with
  | zero =>
    intro x4 w h
    exact absurd (show (none : Option (Bool × rW)) = some (r0, w0) from h) (by simp)
  | succ f ih =>
    intro x4 w h
    rw [J_X10_takes_68] at h
    refine rv_iload 3 dX10_takes_68 rfl ?_
    refine rv_if_le 118 dX10_takes_70 (by decide) (fun c5 => ?_) (fun c5 => ?_)
    · replace h := rIfT h c5
      refine rv_iconst (v := 1) dX10_takes_118 (by decide) ?_
      exact rv_iret .boolean dX10_takes_119 rfl (by decide) (rRetZw (x := 1) h rfl)
    · replace h := rIfF h c5
      refine rv_iload 3 dX10_takes_73 rfl ?_
      obtain ⟨v7, h6, h⟩ := rBind h
      refine rv_callSr (k3 := 0) (n3 := 0) (st2 := []) (As := [.int x4]) caX10_size csX10_size ml_X10_113 dX10_takes_75 rfl (E_X10_size h6) rfl rfl rfl rfl rfl ?_
      clear h6
      refine rv_aload_n 0 dX10_takes_78 rfl ?_
      refine rv_getI ff_X10_18 dX10_takes_79 h (fun v8 h => ?_)
      obtain ⟨K102, eK102, h⟩ := rLetE h
      have hK102 : ∀ (w : rW), K102 w = some (r0, w0) → rEv mX10_takes 2 0 0 102 [(0, .ref x0), (1, .int x1), (2, .int x2), (4, .int x4)] [] w (rIs (some (.int (bi r0))) w0) := by
        intro w9 h
        rw [eK102] at h
        refine rv_iload 3 dX10_takes_102 rfl ?_
        refine rv_iconst (v := 1) dX10_takes_104 (by decide) ?_
        refine rv_isub dX10_takes_105 ?_
        refine rv_aload_n 0 dX10_takes_106 rfl ?_
        refine rv_getR ff_X10_21 dX10_takes_107 h (fun a10 h => ?_)
        refine rv_iload_n 1 dX10_takes_110 rfl ?_
        refine rv_iaload dX10_takes_111 h (fun v11 h => ?_)
        refine rv_iand dX10_takes_112 ?_
        refine rv_letI h (fun v12 h => ?_)
        refine rv_istore (l2 := [(4, .int v12), (0, .ref x0), (1, .int x1), (2, .int x2)]) dX10_takes_113 rfl rfl ?_
        refine rv_goto 68 dX10_takes_115 (by decide) ?_
        exact rv_sub [1, 2, 3, 0] rfl (ih v12 w9 h)
      clear eK102
      refine rv_icmp_ne 102 dX10_takes_82 (by decide) (fun c13 => ?_) (fun c13 => ?_)
      · replace h := rIfF h c13
        exact rv_sub [0, 1, 2, 3] rfl (hK102 w h)
      · replace h := rIfT h c13
        refine rv_aload_n 0 dX10_takes_85 rfl ?_
        refine rv_getR ff_X10_98 dX10_takes_86 h (fun a14 h => ?_)
        refine rv_sipush (v := 256) dX10_takes_89 (by decide) ?_
        refine rv_iload_n 2 dX10_takes_92 rfl ?_
        refine rv_imul dX10_takes_93 ?_
        refine rv_iload 3 dX10_takes_94 rfl ?_
        refine rv_iadd dX10_takes_96 ?_
        refine rv_letI h (fun v15 h => ?_)
        refine rv_dup2 dX10_takes_97 rfl rfl ?_
        refine rv_iaload dX10_takes_98 h (fun v16 h => ?_)
        refine rv_iconst (v := 1) dX10_takes_99 (by decide) ?_
        refine rv_iadd dX10_takes_100 ?_
        refine rv_iastore dX10_takes_101 h (fun w17 h => ?_)
        exact rv_sub [0, 1, 2, 3] rfl (hK102 w17 h)
set_option maxRecDepth 20000 in
theorem E_X10_takes_8 {r0 : Bool} {w0 : rW}  (x0 : Nat) (x1 : Int32) (x2 : Int32) (x3 : Int32) (w : rW)  {K60 : Option (Bool × rW)} (hK60 : K60 = some (r0, w0) → rEv mX10_takes 2 0 0 60 [(0, .ref x0), (1, .int x1), (2, .int x2)] [] w (rIs (some (.int (bi r0))) w0)) : ∀ (f : Nat) (x4 : Int32), J_X10_takes_8 x0 x1 x2 x3 w K60 f x4 = some (r0, w0) → rEv mX10_takes 2 0 0 8 [(0, .ref x0), (1, .int x1), (2, .int x2), (3, .int x3), (4, .int x4)] [] w (rIs (some (.int (bi r0))) w0) := by
  intro f
  induction f with
  | zero =>
    intro x4 h
    exact absurd (show (none : Option (Bool × rW)) = some (r0, w0) from h) (by simp)
  | succ f ih =>
    intro x4 h
    rw [J_X10_takes_8] at h
    refine rv_iload 4 dX10_takes_8 rfl ?_
    refine rv_if_le 60 dX10_takes_10 (by decide) (fun c18 => ?_) (fun c18 => ?_)
    · replace h := rIfT h c18
      exact rv_sub [0, 1, 2] rfl (hK60 h)
    · replace h := rIfF h c18
      refine rv_iload 4 dX10_takes_13 rfl ?_
      obtain ⟨v20, h19, h⟩ := rBind h
      refine rv_callSr (k3 := 0) (n3 := 0) (st2 := []) (As := [.int x4]) caX10_size csX10_size ml_X10_113 dX10_takes_15 rfl (E_X10_size h19) rfl rfl rfl rfl rfl ?_
      clear h19
      refine rv_aload_n 0 dX10_takes_18 rfl ?_
      refine rv_getI ff_X10_18 dX10_takes_19 h (fun v21 h => ?_)
      obtain ⟨K44, eK44, h⟩ := rLetE h
      have hK44 : K44 = some (r0, w0) → rEv mX10_takes 2 0 0 44 [(0, .ref x0), (1, .int x1), (2, .int x2), (3, .int x3), (4, .int x4)] [] w (rIs (some (.int (bi r0))) w0) := by
        intro h
        rw [eK44] at h
        refine rv_iload 4 dX10_takes_44 rfl ?_
        refine rv_iconst (v := 1) dX10_takes_46 (by decide) ?_
        refine rv_isub dX10_takes_47 ?_
        refine rv_aload_n 0 dX10_takes_48 rfl ?_
        refine rv_getR ff_X10_21 dX10_takes_49 h (fun a22 h => ?_)
        refine rv_iload_n 1 dX10_takes_52 rfl ?_
        refine rv_iaload dX10_takes_53 h (fun v23 h => ?_)
        refine rv_iand dX10_takes_54 ?_
        refine rv_letI h (fun v24 h => ?_)
        refine rv_istore (l2 := [(4, .int v24), (0, .ref x0), (1, .int x1), (2, .int x2), (3, .int x3)]) dX10_takes_55 rfl rfl ?_
        refine rv_goto 8 dX10_takes_57 (by decide) ?_
        exact rv_sub [1, 2, 3, 4, 0] rfl (ih v24 h)
      clear eK44
      refine rv_icmp_ne 44 dX10_takes_22 (by decide) (fun c25 => ?_) (fun c25 => ?_)
      · replace h := rIfF h c25
        exact rv_sub [0, 1, 2, 3, 4] rfl (hK44 h)
      · replace h := rIfT h c25
        refine rv_aload_n 0 dX10_takes_25 rfl ?_
        refine rv_getR ff_X10_98 dX10_takes_26 h (fun a26 h => ?_)
        refine rv_sipush (v := 256) dX10_takes_29 (by decide) ?_
        refine rv_iload_n 2 dX10_takes_32 rfl ?_
        refine rv_imul dX10_takes_33 ?_
        refine rv_iload 4 dX10_takes_34 rfl ?_
        refine rv_iadd dX10_takes_36 ?_
        refine rv_iaload dX10_takes_37 h (fun v27 h => ?_)
        refine rv_iload_n 3 dX10_takes_38 rfl ?_
        refine rv_icmp_ne 44 dX10_takes_39 (by decide) (fun c28 => ?_) (fun c28 => ?_)
        · replace h := rIfF h c28
          exact rv_sub [0, 1, 2, 3, 4] rfl (hK44 h)
        · replace h := rIfT h c28
          refine rv_iconst (v := 0) dX10_takes_42 (by decide) ?_
          exact rv_iret .boolean dX10_takes_43 rfl (by decide) (rRetZw (x := 0) h rfl)
set_option maxRecDepth 20000 in
theorem E_X10_takes {x0 : Nat} {x1 : Int32} {x2 : Int32} {x3 : Int32} {r0 : Bool} {w0 : rW} {w : rW} (h : J_X10_takes x0 x1 x2 x3 w = some (r0, w0)) : (∃ fs, w[x0]? = some (cO 10 fs)) ∧ rMet mX10_takes 2 0 0 [.ref x0, .int x1, .int x2, .int x3] w (rIs (some (.int (bi r0))) w0) := by
  unfold J_X10_takes at h
  obtain ⟨hrc, h⟩ := rRc_some h
  refine ⟨hrc, ?_⟩
  refine rMet_of (by decide) rfl ?_
  refine rv_aload_n 0 dX10_takes_0 rfl ?_
  refine rv_getR ff_X10_21 dX10_takes_1 h (fun a1 h => ?_)
  refine rv_iload_n 1 dX10_takes_4 rfl ?_
  refine rv_iaload dX10_takes_5 h (fun v2 h => ?_)
  refine rv_istore (l2 := [(4, .int v2), (0, .ref x0), (1, .int x1), (2, .int x2), (3, .int x3)]) dX10_takes_6 rfl rfl ?_
  obtain ⟨K60, eK60, h⟩ := rLetE h
  have hK60 : K60 = some (r0, w0) → rEv mX10_takes 2 0 0 60 [(0, .ref x0), (1, .int x1), (2, .int x2)] [] w (rIs (some (.int (bi r0))) w0) := by
    intro h
    rw [eK60] at h
    refine rv_aload_n 0 dX10_takes_60 rfl ?_
    refine rv_getR ff_X10_21 dX10_takes_61 h (fun a3 h => ?_)
    refine rv_iload_n 1 dX10_takes_64 rfl ?_
    refine rv_iaload dX10_takes_65 h (fun v4 h => ?_)
    refine rv_istore (l2 := [(4, .int v4), (0, .ref x0), (1, .int x1), (2, .int x2)]) dX10_takes_66 rfl rfl ?_
    exact rv_sub [1, 2, 3, 0] rfl (E_X10_takes_68 x0 x1 x2 2000 v4 w h)
  clear eK60
  exact rv_sub [1, 2, 3, 4, 0] rfl (E_X10_takes_8 x0 x1 x2 x3 w hK60 2000 v2 h)
set_option maxRecDepth 20000 in
theorem E_X10_deals_128 {w0 : rW} (fr : Nat)  (x0 : Nat) (x1 : Int32) (x2 : Int32) (x3 : Int32) (x4 : Int32) (x5 : Int32)  {K179 : rW → Option rW} (hK179 : ∀ (w : rW), K179 w = some w0 → rEv mX10_deals (3 + (fr + 1)) 0 0 179 [(0, .ref x0), (1, .int x1), (2, .int x2), (3, .int x3), (4, .int x4), (5, .int x5)] [] w (rIs none w0)) : ∀ (f : Nat) (x6 : Int32) (w : rW), J_X10_deals_128 x0 x1 x5 K179 f x6 w = some w0 → rEv mX10_deals (3 + (fr + 1)) 0 0 128 [(0, .ref x0), (1, .int x1), (2, .int x2), (3, .int x3), (4, .int x4), (5, .int x5), (6, .int x6)] [] w (rIs none w0) := by
  intro f
  induction f with
  | zero =>
    intro x6 w h
    exact absurd (show (none : Option rW) = some w0 from h) (by simp)
  | succ f ih =>
    intro x6 w h
    rw [J_X10_deals_128] at h
    refine rv_iload 6 dX10_deals_128 rfl ?_
    refine rv_if_le 179 dX10_deals_130 (by decide) (fun c17 => ?_) (fun c17 => ?_)
    · replace h := rIfT h c17
      exact rv_sub [0, 1, 2, 3, 4, 5] rfl (hK179 w h)
    · replace h := rIfF h c17
      refine rv_iload 6 dX10_deals_133 rfl ?_
      obtain ⟨v19, h18, h⟩ := rBind h
      refine rv_callSr (k3 := 0) (n3 := 0) (st2 := []) (As := [.int x6]) caX10_size csX10_size ml_X10_113 dX10_deals_135 (Nat.ble_eq_true_of_le (by omega)) (E_X10_size h18) rfl rfl rfl rfl rfl ?_
      clear h18
      refine rv_aload_n 0 dX10_deals_138 rfl ?_
      refine rv_getI ff_X10_18 dX10_deals_139 h (fun v20 h => ?_)
      obtain ⟨K163, eK163, h⟩ := rLetE h
      have hK163 : ∀ (w : rW), K163 w = some w0 → rEv mX10_deals (3 + (fr + 1)) 0 0 163 [(0, .ref x0), (1, .int x1), (2, .int x2), (3, .int x3), (4, .int x4), (5, .int x5), (6, .int x6)] [] w (rIs none w0) := by
        intro w21 h
        rw [eK163] at h
        refine rv_iload 6 dX10_deals_163 rfl ?_
        refine rv_iconst (v := 1) dX10_deals_165 (by decide) ?_
        refine rv_isub dX10_deals_166 ?_
        refine rv_aload_n 0 dX10_deals_167 rfl ?_
        refine rv_getR ff_X10_21 dX10_deals_168 h (fun a22 h => ?_)
        refine rv_iload_n 1 dX10_deals_171 rfl ?_
        refine rv_iaload dX10_deals_172 h (fun v23 h => ?_)
        refine rv_iand dX10_deals_173 ?_
        refine rv_letI h (fun v24 h => ?_)
        refine rv_istore (l2 := [(6, .int v24), (0, .ref x0), (1, .int x1), (2, .int x2), (3, .int x3), (4, .int x4), (5, .int x5)]) dX10_deals_174 rfl rfl ?_
        refine rv_goto 128 dX10_deals_176 (by decide) ?_
        exact rv_sub [1, 2, 3, 4, 5, 6, 0] rfl (ih v24 w21 h)
      clear eK163
      refine rv_icmp_ne 163 dX10_deals_142 (by decide) (fun c25 => ?_) (fun c25 => ?_)
      · replace h := rIfF h c25
        exact rv_sub [0, 1, 2, 3, 4, 5, 6] rfl (hK163 w h)
      · replace h := rIfT h c25
        refine rv_aload_n 0 dX10_deals_145 rfl ?_
        refine rv_getR ff_X10_98 dX10_deals_146 h (fun a26 h => ?_)
        refine rv_sipush (v := 256) dX10_deals_149 (by decide) ?_
        refine rv_iload 5 dX10_deals_152 rfl ?_
        refine rv_imul dX10_deals_154 ?_
        refine rv_iload 6 dX10_deals_155 rfl ?_
        refine rv_iadd dX10_deals_157 ?_
        refine rv_letI h (fun v27 h => ?_)
        refine rv_dup2 dX10_deals_158 rfl rfl ?_
        refine rv_iaload dX10_deals_159 h (fun v28 h => ?_)
        refine rv_iconst (v := 1) dX10_deals_160 (by decide) ?_
        refine rv_isub dX10_deals_161 ?_
        refine rv_iastore dX10_deals_162 h (fun w29 h => ?_)
        exact rv_sub [0, 1, 2, 3, 4, 5, 6] rfl (hK163 w29 h)
set_option maxRecDepth 20000 in
theorem E_X10_deals_67 {w0 : rW} (fr : Nat) {rec : Nat → Int32 → Int32 → Int32 → Int32 → rW → Option rW} (hrec : ∀ (a0 : Nat) (a1 : Int32) (a2 : Int32) (a3 : Int32) (a4 : Int32) (w1 w2 : rW), rec a0 a1 a2 a3 a4 w1 = some w2 → (∃ fs, w1[a0]? = some (cO 10 fs)) ∧ rMet mX10_deals (3 + fr) 0 0 [.ref a0, .int a1, .int a2, .int a3, .int a4] w1 (rIs none w2))  (x0 : Nat) (x1 : Int32) (x2 : Int32) (x3 : Int32) (x4 : Int32)   : ∀ (f : Nat) (x5 : Int32) (w : rW), J_X10_deals_67 rec x0 x1 x2 x3 x4 f x5 w = some w0 → rEv mX10_deals (3 + (fr + 1)) 0 0 67 [(0, .ref x0), (1, .int x1), (2, .int x2), (3, .int x3), (4, .int x4), (5, .int x5)] [] w (rIs none w0) := by
  intro f
  induction f with
  | zero =>
    intro x5 w h
    exact absurd (show (none : Option rW) = some w0 from h) (by simp)
  | succ f ih =>
    intro x5 w h
    rw [J_X10_deals_67] at h
    refine rv_iload 5 dX10_deals_67 rfl ?_
    refine rv_iload_n 2 dX10_deals_69 rfl ?_
    refine rv_icmp_gt 185 dX10_deals_70 (by decide) (fun c3 => ?_) (fun c3 => ?_)
    · replace h := rIfT h c3
      exact rv_vret dX10_deals_185 rfl (rRetV h)
    · replace h := rIfF h c3
      refine rv_iload 5 dX10_deals_73 rfl ?_
      refine rv_iload_n 3 dX10_deals_75 rfl ?_
      refine rv_icmp_ge 185 dX10_deals_76 (by decide) (fun c4 => ?_) (fun c4 => ?_)
      · replace h := rIfT h c4
        exact rv_vret dX10_deals_185 rfl (rRetV h)
      · replace h := rIfF h c4
        refine rv_aload_n 0 dX10_deals_79 rfl ?_
        refine rv_iload_n 1 dX10_deals_80 rfl ?_
        refine rv_iload 5 dX10_deals_81 rfl ?_
        refine rv_iload 4 dX10_deals_83 rfl ?_
        obtain ⟨b6, w7, h5, h⟩ := rB2_some h
        refine rv_callVr (k3 := 0) (n3 := 0) (st2 := []) caX10_takes cvX10_takes ml_X10_318 dX10_deals_85 (Nat.ble_eq_true_of_le (by omega)) (E_X10_takes h5).2 (E_X10_takes h5).1 rfl rfl rfl rfl rfl ?_
        clear h5
        obtain ⟨K179, eK179, h⟩ := rLetE h
        have hK179 : ∀ (w : rW), K179 w = some w0 → rEv mX10_deals (3 + (fr + 1)) 0 0 179 [(0, .ref x0), (1, .int x1), (2, .int x2), (3, .int x3), (4, .int x4), (5, .int x5)] [] w (rIs none w0) := by
          intro w8 h
          rw [eK179] at h
          obtain ⟨v9, ev9, h⟩ := rLetE h
          refine rv_iinc (v := v9) (l2 := [(5, .int v9), (0, .ref x0), (1, .int x1), (2, .int x2), (3, .int x3), (4, .int x4)]) 5 dX10_deals_179 rfl (by rw [ev9]; rfl) rfl rfl ?_
          clear ev9
          refine rv_goto 67 dX10_deals_182 (by decide) ?_
          exact rv_sub [1, 2, 3, 4, 5, 0] rfl (ih v9 w8 h)
        clear eK179
        refine rv_if_ne 94 dX10_deals_88 (by decide) (fun c10 => ?_) (fun c10 => ?_)
        · replace h := rIfF h c10
          refine rv_aload_n 0 dX10_deals_94 rfl ?_
          refine rv_getR ff_X10_92 dX10_deals_95 h (fun a11 h => ?_)
          refine rv_iload_n 1 dX10_deals_98 rfl ?_
          refine rv_iload 5 dX10_deals_99 rfl ?_
          refine rv_iastore dX10_deals_101 h (fun w12 h => ?_)
          refine rv_aload_n 0 dX10_deals_102 rfl ?_
          refine rv_iload_n 1 dX10_deals_103 rfl ?_
          refine rv_iconst (v := 1) dX10_deals_104 (by decide) ?_
          refine rv_iadd dX10_deals_105 ?_
          refine rv_iload_n 2 dX10_deals_106 rfl ?_
          refine rv_iload 5 dX10_deals_107 rfl ?_
          refine rv_iconst (v := 1) dX10_deals_109 (by decide) ?_
          refine rv_iadd dX10_deals_110 ?_
          refine rv_mmax ml_X10_148 sm_J9_max_7cf53 in_J9 co_J9_max_7cf53 dX10_deals_111 (Nat.ble_eq_true_of_le (by omega)) rfl ?_
          refine rv_iload_n 3 dX10_deals_114 rfl ?_
          refine rv_iload 4 dX10_deals_115 rfl ?_
          obtain ⟨w14, h13, h⟩ := rBind h
          refine rv_callVv (k3 := 0) (n3 := 0) (st2 := []) caX10_deals cvX10_deals ml_X10_321 dX10_deals_117 (Nat.ble_eq_true_of_le (by omega)) (hrec _ _ _ _ _ _ _ h13).2 (hrec _ _ _ _ _ _ _ h13).1 rfl rfl rfl rfl rfl ?_
          clear h13
          refine rv_aload_n 0 dX10_deals_120 rfl ?_
          refine rv_getR ff_X10_21 dX10_deals_121 h (fun a15 h => ?_)
          refine rv_iload_n 1 dX10_deals_124 rfl ?_
          refine rv_iaload dX10_deals_125 h (fun v16 h => ?_)
          refine rv_istore (l2 := [(6, .int v16), (0, .ref x0), (1, .int x1), (2, .int x2), (3, .int x3), (4, .int x4), (5, .int x5)]) dX10_deals_126 rfl rfl ?_
          exact rv_sub [1, 2, 3, 4, 5, 6, 0] rfl (E_X10_deals_128 fr x0 x1 x2 x3 x4 x5 hK179 2000 v16 w14 h)
        · replace h := rIfT h c10
          refine rv_goto 179 dX10_deals_91 (by decide) ?_
          exact rv_sub [0, 1, 2, 3, 4, 5] rfl (hK179 w7 h)
set_option maxRecDepth 20000 in
theorem E_X10_deals_24 {w0 : rW} (fr : Nat)  (x0 : Nat)  {K53 : rW → Option rW} (hK53 : ∀ (w : rW), K53 w = some w0 → rEv mX10_deals (3 + (fr + 1)) 0 0 53 [(0, .ref x0)] [] w (rIs none w0)) : ∀ (f : Nat) (x5 : Int32) (w : rW), J_X10_deals_24 x0 K53 f x5 w = some w0 → rEv mX10_deals (3 + (fr + 1)) 0 0 24 [(0, .ref x0), (5, .int x5)] [] w (rIs none w0) := by
  intro f
  induction f with
  | zero =>
    intro x5 w h
    exact absurd (show (none : Option rW) = some w0 from h) (by simp)
  | succ f ih =>
    intro x5 w h
    rw [J_X10_deals_24] at h
    refine rv_iload 1 dX10_deals_24 rfl ?_
    refine rv_aload_n 0 dX10_deals_26 rfl ?_
    refine rv_getI ff_X10_110 dX10_deals_27 h (fun v36 h => ?_)
    refine rv_icmp_ge 53 dX10_deals_30 (by decide) (fun c37 => ?_) (fun c37 => ?_)
    · replace h := rIfT h c37
      exact rv_sub [0] rfl (hK53 w h)
    · replace h := rIfF h c37
      refine rv_aload_n 0 dX10_deals_33 rfl ?_
      refine rv_getR ff_X10_95 dX10_deals_34 h (fun a38 h => ?_)
      refine rv_iload 1 dX10_deals_37 rfl ?_
      refine rv_aload_n 0 dX10_deals_39 rfl ?_
      refine rv_getR ff_X10_92 dX10_deals_40 h (fun a39 h => ?_)
      refine rv_iload 1 dX10_deals_43 rfl ?_
      refine rv_iaload dX10_deals_45 h (fun v40 h => ?_)
      refine rv_iastore dX10_deals_46 h (fun w41 h => ?_)
      obtain ⟨v42, ev42, h⟩ := rLetE h
      refine rv_iinc (v := v42) (l2 := [(5, .int v42), (0, .ref x0)]) 1 dX10_deals_47 rfl (by rw [ev42]; rfl) rfl rfl ?_
      clear ev42
      refine rv_goto 24 dX10_deals_50 (by decide) ?_
      exact rv_sub [1, 0] rfl (ih v42 w41 h)
set_option maxRecDepth 20000 in
theorem E_X10_deals : ∀ (f : Nat) {x0 : Nat} {x1 : Int32} {x2 : Int32} {x3 : Int32} {x4 : Int32} {w w0 : rW}, J_X10_deals f x0 x1 x2 x3 x4 w = some w0 → (∃ fs, w[x0]? = some (cO 10 fs)) ∧ rMet mX10_deals (3 + f) 0 0 [.ref x0, .int x1, .int x2, .int x3, .int x4] w (rIs none w0) := by
  intro f
  induction f with
  | zero =>
    intro x0 x1 x2 x3 x4 w w0 h
    exact absurd (show (none : Option rW) = some w0 from h) (by simp)
  | succ f ih =>
    intro x0 x1 x2 x3 x4 w w0 h
    have hrec : ∀ (a0 : Nat) (a1 : Int32) (a2 : Int32) (a3 : Int32) (a4 : Int32) (w1 w2 : rW), J_X10_deals f a0 a1 a2 a3 a4 w1 = some w2 → (∃ fs, w1[a0]? = some (cO 10 fs)) ∧ rMet mX10_deals (3 + f) 0 0 [.ref a0, .int a1, .int a2, .int a3, .int a4] w1 (rIs none w2) := fun a0 a1 a2 a3 a4 w1 w2 h => ih h
    rw [J_X10_deals] at h
    obtain ⟨hrc, h⟩ := rRc_some h
    refine ⟨hrc, ?_⟩
    refine rMet_of (by decide) rfl ?_
    refine rv_iload_n 1 dX10_deals_0 rfl ?_
    refine rv_aload_n 0 dX10_deals_1 rfl ?_
    refine rv_getI ff_X10_110 dX10_deals_2 h (fun v1 h => ?_)
    refine rv_icmp_ne 64 dX10_deals_5 (by decide) (fun c2 => ?_) (fun c2 => ?_)
    · replace h := rIfF h c2
      refine rv_iconst (v := 0) dX10_deals_64 (by decide) ?_
      refine rv_istore (l2 := [(5, .int 0), (0, .ref x0), (1, .int x1), (2, .int x2), (3, .int x3), (4, .int x4)]) dX10_deals_65 rfl rfl ?_
      exact rv_sub [1, 2, 3, 4, 5, 0] rfl (E_X10_deals_67 f hrec x0 x1 x2 x3 x4 2000 0 w h)
    · replace h := rIfT h c2
      refine rv_iload_n 2 dX10_deals_8 rfl ?_
      refine rv_iload_n 3 dX10_deals_9 rfl ?_
      refine rv_icmp_ge 14 dX10_deals_10 (by decide) (fun c30 => ?_) (fun c30 => ?_)
      · replace h := rIfT h c30
        refine rv_aload_n 0 dX10_deals_14 rfl ?_
        refine rv_getI ff_X10_315 dX10_deals_15 h (fun v31 h => ?_)
        obtain ⟨K53, eK53, h⟩ := rLetE h
        have hK53 : ∀ (w : rW), K53 w = some w0 → rEv mX10_deals (3 + (f + 1)) 0 0 53 [(0, .ref x0)] [] w (rIs none w0) := by
          intro w32 h
          rw [eK53] at h
          refine rv_aload_n 0 dX10_deals_53 rfl ?_
          refine rv_dup dX10_deals_54 rfl ?_
          refine rv_getI ff_X10_315 dX10_deals_55 h (fun v33 h => ?_)
          refine rv_iconst (v := 1) dX10_deals_58 (by decide) ?_
          refine rv_iadd dX10_deals_59 ?_
          refine rv_putI ff_X10_315 (fp_X10_38 _) dX10_deals_60 h (fun w34 h => ?_)
          exact rv_vret dX10_deals_63 rfl (rRetV h)
        clear eK53
        refine rv_if_ne 53 dX10_deals_18 (by decide) (fun c35 => ?_) (fun c35 => ?_)
        · replace h := rIfF h c35
          exact rv_sub [0] rfl (hK53 w h)
        · replace h := rIfT h c35
          refine rv_iconst (v := 0) dX10_deals_21 (by decide) ?_
          refine rv_istore (l2 := [(5, .int 0), (0, .ref x0), (1, .int x1), (2, .int x2), (3, .int x3), (4, .int x4)]) dX10_deals_22 rfl rfl ?_
          exact rv_sub [1, 0] rfl (E_X10_deals_24 f x0 hK53 2000 0 w h)
      · replace h := rIfF h c30
        exact rv_vret dX10_deals_13 rfl (rRetV h)
set_option maxRecDepth 20000 in
theorem E_X10_parts_7 {w0 : rW}  (x0 : Nat) (x1 : Int32)  {K27 : rW → Option rW} (hK27 : ∀ (w : rW), K27 w = some w0 → rEv mX10_parts 44 0 0 27 [(0, .ref x0), (1, .int x1)] [] w (rIs none w0)) : ∀ (f : Nat) (x2 : Int32) (w : rW), J_X10_parts_7 x0 K27 f x2 w = some w0 → rEv mX10_parts 44 0 0 7 [(0, .ref x0), (1, .int x1), (2, .int x2)] [] w (rIs none w0) := by
  intro f
  induction f with
  | zero =>
    intro x2 w h
    exact absurd (show (none : Option rW) = some w0 from h) (by simp)
  | succ f ih =>
    intro x2 w h
    rw [J_X10_parts_7] at h
    refine rv_iload_n 2 dX10_parts_7 rfl ?_
    refine rv_sipush (v := 1536) dX10_parts_8 (by decide) ?_
    refine rv_icmp_ge 27 dX10_parts_11 (by decide) (fun c17 => ?_) (fun c17 => ?_)
    · replace h := rIfT h c17
      exact rv_sub [0, 1] rfl (hK27 w h)
    · replace h := rIfF h c17
      refine rv_aload_n 0 dX10_parts_14 rfl ?_
      refine rv_getR ff_X10_98 dX10_parts_15 h (fun a18 h => ?_)
      refine rv_iload_n 2 dX10_parts_18 rfl ?_
      refine rv_iconst (v := 0) dX10_parts_19 (by decide) ?_
      refine rv_iastore dX10_parts_20 h (fun w19 h => ?_)
      obtain ⟨v20, ev20, h⟩ := rLetE h
      refine rv_iinc (v := v20) (l2 := [(2, .int v20), (0, .ref x0), (1, .int x1)]) 2 dX10_parts_21 rfl (by rw [ev20]; rfl) rfl rfl ?_
      clear ev20
      refine rv_goto 7 dX10_parts_24 (by decide) ?_
      exact rv_sub [1, 2, 0] rfl (ih v20 w19 h)
set_option maxRecDepth 20000 in
theorem E_X10_parts {x0 : Nat} {x1 : Int32} {w0 : rW} {w : rW} (h : J_X10_parts x0 x1 w = some w0) : (∃ fs, w[x0]? = some (cO 10 fs)) ∧ rMet mX10_parts 44 0 0 [.ref x0, .int x1] w (rIs none w0) := by
  unfold J_X10_parts at h
  obtain ⟨hrc, h⟩ := rRc_some h
  refine ⟨hrc, ?_⟩
  refine rMet_of (by decide) rfl ?_
  refine rv_aload_n 0 dX10_parts_0 rfl ?_
  refine rv_iconst (v := 0) dX10_parts_1 (by decide) ?_
  refine rv_putI ff_X10_315 (fp_X10_38 _) dX10_parts_2 h (fun w1 h => ?_)
  refine rv_iconst (v := 0) dX10_parts_5 (by decide) ?_
  refine rv_istore_n (l2 := [(2, .int 0), (0, .ref x0), (1, .int x1)]) dX10_parts_6 rfl rfl ?_
  obtain ⟨K27, eK27, h⟩ := rLetE h
  have hK27 : ∀ (w : rW), K27 w = some w0 → rEv mX10_parts 44 0 0 27 [(0, .ref x0), (1, .int x1)] [] w (rIs none w0) := by
    intro w2 h
    rw [eK27] at h
    refine rv_aload_n 0 dX10_parts_27 rfl ?_
    refine rv_getI ff_X10_18 dX10_parts_28 h (fun v3 h => ?_)
    refine rv_aload_n 0 dX10_parts_31 rfl ?_
    refine rv_getI ff_X10_15 dX10_parts_32 h (fun v4 h => ?_)
    refine rv_iconst (v := 1) dX10_parts_35 (by decide) ?_
    refine rv_isub dX10_parts_36 ?_
    obtain ⟨K69, eK69, h⟩ := rLetE h
    have hK69 : ∀ (z0 : Int32), K69 z0 = some w0 → rEv mX10_parts 44 0 0 69 [(0, .ref x0), (1, .int x1)] [.int z0] w2 (rIs none w0) := by
      intro z5 h
      rw [eK69] at h
      refine rv_istore_n (l2 := [(2, .int z5), (0, .ref x0), (1, .int x1)]) dX10_parts_69 rfl rfl ?_
      refine rv_iload_n 0 dX10_parts_70 rfl ?_
      refine rv_iload_n 2 dX10_parts_71 rfl ?_
      refine rv_iremB dX10_parts_72 h (fun v6 h => ?_)
      refine rv_if_ne 86 dX10_parts_73 (by decide) (fun c7 => ?_) (fun c7 => ?_)
      · replace h := rIfF h c7
        exact rv_vret dX10_parts_86 rfl (rRetV h)
      · replace h := rIfT h c7
        refine rv_aload_n 1 dX10_parts_76 rfl ?_
        refine rv_iconst (v := 0) dX10_parts_77 (by decide) ?_
        refine rv_iconst (v := 0) dX10_parts_78 (by decide) ?_
        refine rv_iload_n 2 dX10_parts_79 rfl ?_
        refine rv_iload_n 0 dX10_parts_80 rfl ?_
        refine rv_iload_n 2 dX10_parts_81 rfl ?_
        refine rv_idivB dX10_parts_82 h (fun v8 h => ?_)
        obtain ⟨w10, h9, h⟩ := rBind h
        refine rv_callVv (k3 := 0) (n3 := 0) (st2 := []) caX10_deals cvX10_deals ml_X10_321 dX10_parts_83 rfl (E_X10_deals 40 h9).2 (E_X10_deals 40 h9).1 rfl rfl rfl rfl rfl ?_
        clear h9
        exact rv_vret dX10_parts_86 rfl (rRetV h)
    clear eK69
    refine rv_icmp_ne 54 dX10_parts_37 (by decide) (fun c11 => ?_) (fun c11 => ?_)
    · replace h := rIfF h c11
      refine rv_aload_n 0 dX10_parts_54 rfl ?_
      refine rv_getI ff_X10_9 dX10_parts_55 h (fun v12 h => ?_)
      refine rv_iconst (v := 1) dX10_parts_58 (by decide) ?_
      refine rv_isub dX10_parts_59 ?_
      refine rv_aload_n 0 dX10_parts_60 rfl ?_
      refine rv_getI ff_X10_9 dX10_parts_61 h (fun v13 h => ?_)
      refine rv_iconst (v := 2) dX10_parts_64 (by decide) ?_
      refine rv_isub dX10_parts_65 ?_
      refine rv_imul dX10_parts_66 ?_
      refine rv_iconst (v := 2) dX10_parts_67 (by decide) ?_
      refine rv_idivB dX10_parts_68 h (fun v14 h => ?_)
      exact rv_sub [0, 1] rfl (hK69 v14 h)
    · replace h := rIfT h c11
      refine rv_aload_n 0 dX10_parts_40 rfl ?_
      refine rv_getI ff_X10_9 dX10_parts_41 h (fun v15 h => ?_)
      refine rv_aload_n 0 dX10_parts_44 rfl ?_
      refine rv_getI ff_X10_15 dX10_parts_45 h (fun v16 h => ?_)
      refine rv_isub dX10_parts_48 ?_
      refine rv_iconst (v := 1) dX10_parts_49 (by decide) ?_
      refine rv_iadd dX10_parts_50 ?_
      refine rv_goto 69 dX10_parts_51 (by decide) ?_
      exact rv_sub [0, 1] rfl (hK69 ((v15 - v16) + 1) h)
  clear eK27
  exact rv_sub [1, 2, 0] rfl (E_X10_parts_7 x0 x1 hK27 2000 0 w1 h)
set_option maxRecDepth 20000 in
theorem E_X10_parted {x0 : Nat} {x1 : Int32} {r0 : Int32} {w0 : rW} {w : rW} (h : J_X10_parted x0 x1 w = some (r0, w0)) : (∃ fs, w[x0]? = some (cO 10 fs)) ∧ rMet mX10_parted 45 0 0 [.ref x0, .int x1] w (rIs (some (.int r0)) w0) := by
  unfold J_X10_parted at h
  obtain ⟨hrc, h⟩ := rRc_some h
  refine ⟨hrc, ?_⟩
  refine rMet_of (by decide) rfl ?_
  refine rv_iload_n 1 dX10_parted_0 rfl ?_
  refine rv_i2l dX10_parted_1 ?_
  refine rv_ldc2 dX10_parted_2 kl_X10_124 ?_
  refine rv_ldc2 dX10_parted_5 kl_X10_325 ?_
  obtain ⟨b2, h1, h⟩ := rBind h
  refine rv_callSr (k3 := 0) (n3 := 0) (st2 := []) (As := [.long (Int32.toInt64 x1), .long 2, .long 6]) caX10_in csX10_in ml_X10_116 dX10_parted_8 rfl (E_X10_in h1) rfl rfl rfl rfl rfl ?_
  clear h1
  refine rv_if_ne 17 dX10_parted_11 (by decide) (fun c3 => ?_) (fun c3 => ?_)
  · replace h := rIfF h c3
    refine rv_aload_n 0 dX10_parted_17 rfl ?_
    obtain ⟨b5, h4, h⟩ := rBind h
    refine rv_callVr (k3 := 0) (n3 := 0) (st2 := []) caX10_isLookedFor cvX10_isLookedFor ml_X10_327 dX10_parted_18 rfl (E_X10_isLookedFor h4).2 (E_X10_isLookedFor h4).1 rfl rfl rfl rfl rfl ?_
    clear h4
    refine rv_if_ne 27 dX10_parted_21 (by decide) (fun c6 => ?_) (fun c6 => ?_)
    · replace h := rIfF h c6
      refine rv_aload_n 0 dX10_parted_27 rfl ?_
      refine rv_iload_n 1 dX10_parted_28 rfl ?_
      obtain ⟨w8, h7, h⟩ := rBind h
      refine rv_callVv (k3 := 0) (n3 := 0) (st2 := []) caX10_parts cvX10_parts ml_X10_330 dX10_parted_29 rfl (E_X10_parts h7).2 (E_X10_parts h7).1 rfl rfl rfl rfl rfl ?_
      clear h7
      refine rv_aload_n 0 dX10_parted_32 rfl ?_
      refine rv_getI ff_X10_315 dX10_parted_33 h (fun v9 h => ?_)
      exact rv_iret .int dX10_parted_36 rfl rfl (rRetIw h)
    · replace h := rIfT h c6
      refine rv_bipush (v := (-3)) dX10_parted_24 (by decide) ?_
      exact rv_iret .int dX10_parted_26 rfl rfl (rRetIw h)
  · replace h := rIfT h c3
    refine rv_bipush (v := (-2)) dX10_parted_14 (by decide) ?_
    exact rv_iret .int dX10_parted_16 rfl rfl (rRetIw h)
set_option maxRecDepth 20000 in
theorem E_X10_part {x0 : Nat} {x1 : Int32} {x2 : Int32} {r0 : Int32} {w0 : rW} {w : rW} (h : J_X10_part x0 x1 x2 w = some (r0, w0)) : (∃ fs, w[x0]? = some (cO 10 fs)) ∧ rMet mX10_part 45 0 0 [.ref x0, .int x1, .int x2] w (rIs (some (.int r0)) w0) := by
  unfold J_X10_part at h
  obtain ⟨hrc, h⟩ := rRc_some h
  refine ⟨hrc, ?_⟩
  refine rMet_of (by decide) rfl ?_
  refine rv_aload_n 0 dX10_part_0 rfl ?_
  refine rv_iload_n 2 dX10_part_1 rfl ?_
  obtain ⟨b2, h1, h⟩ := rBind h
  refine rv_callVr (k3 := 0) (n3 := 0) (st2 := []) caX10_isBlock cvX10_isBlock ml_X10_140 dX10_part_2 rfl (E_X10_isBlock h1).2 (E_X10_isBlock h1).1 rfl rfl rfl rfl rfl ?_
  clear h1
  refine rv_if_ne 10 dX10_part_5 (by decide) (fun c3 => ?_) (fun c3 => ?_)
  · replace h := rIfF h c3
    refine rv_iload_n 1 dX10_part_10 rfl ?_
    refine rv_i2l dX10_part_11 ?_
    refine rv_ldc2 dX10_part_12 kl_X10_124 ?_
    refine rv_ldc2 dX10_part_15 kl_X10_325 ?_
    obtain ⟨b5, h4, h⟩ := rBind h
    refine rv_callSr (k3 := 0) (n3 := 0) (st2 := []) (As := [.long (Int32.toInt64 x1), .long 2, .long 6]) caX10_in csX10_in ml_X10_116 dX10_part_18 rfl (E_X10_in h4) rfl rfl rfl rfl rfl ?_
    clear h4
    refine rv_if_ne 27 dX10_part_21 (by decide) (fun c6 => ?_) (fun c6 => ?_)
    · replace h := rIfF h c6
      refine rv_aload_n 0 dX10_part_27 rfl ?_
      obtain ⟨b8, h7, h⟩ := rBind h
      refine rv_callVr (k3 := 0) (n3 := 0) (st2 := []) caX10_isLookedFor cvX10_isLookedFor ml_X10_327 dX10_part_28 rfl (E_X10_isLookedFor h7).2 (E_X10_isLookedFor h7).1 rfl rfl rfl rfl rfl ?_
      clear h7
      refine rv_if_ne 37 dX10_part_31 (by decide) (fun c9 => ?_) (fun c9 => ?_)
      · replace h := rIfF h c9
        refine rv_aload_n 0 dX10_part_37 rfl ?_
        refine rv_iload_n 1 dX10_part_38 rfl ?_
        obtain ⟨w11, h10, h⟩ := rBind h
        refine rv_callVv (k3 := 0) (n3 := 0) (st2 := []) caX10_parts cvX10_parts ml_X10_330 dX10_part_39 rfl (E_X10_parts h10).2 (E_X10_parts h10).1 rfl rfl rfl rfl rfl ?_
        clear h10
        refine rv_aload_n 0 dX10_part_42 rfl ?_
        refine rv_getI ff_X10_315 dX10_part_43 h (fun v12 h => ?_)
        refine rv_if_ne 54 dX10_part_46 (by decide) (fun c13 => ?_) (fun c13 => ?_)
        · replace h := rIfF h c13
          refine rv_aload_n 0 dX10_part_54 rfl ?_
          refine rv_getR ff_X10_95 dX10_part_55 h (fun a14 h => ?_)
          refine rv_iload_n 2 dX10_part_58 rfl ?_
          refine rv_iaload dX10_part_59 h (fun v15 h => ?_)
          exact rv_iret .int dX10_part_60 rfl rfl (rRetIw h)
        · replace h := rIfT h c13
          refine rv_bipush (v := (-5)) dX10_part_49 (by decide) ?_
          refine rv_goto 60 dX10_part_51 (by decide) ?_
          exact rv_iret .int dX10_part_60 rfl rfl (rRetIw h)
      · replace h := rIfT h c9
        refine rv_bipush (v := (-3)) dX10_part_34 (by decide) ?_
        exact rv_iret .int dX10_part_36 rfl rfl (rRetIw h)
    · replace h := rIfT h c6
      refine rv_bipush (v := (-2)) dX10_part_24 (by decide) ?_
      exact rv_iret .int dX10_part_26 rfl rfl (rRetIw h)
  · replace h := rIfT h c3
    refine rv_iconst (v := (-1)) dX10_part_8 (by decide) ?_
    exact rv_iret .int dX10_part_9 rfl rfl (rRetIw h)
set_option maxRecDepth 20000 in
theorem E_X10_see {x0 : Nat} {x1 : Int32} {x2 : Int32} {r0 : Int32} {w0 : rW} {w : rW} (h : J_X10_see x0 x1 x2 w = some (r0, w0)) : (∃ fs, w[x0]? = some (cO 10 fs)) ∧ rMet mX10_see 3 0 0 [.ref x0, .int x1, .int x2] w (rIs (some (.int r0)) w0) := by
  unfold J_X10_see at h
  obtain ⟨hrc, h⟩ := rRc_some h
  refine ⟨hrc, ?_⟩
  refine rMet_of (by decide) rfl ?_
  refine rv_iload_n 1 dX10_see_0 rfl ?_
  refine rv_iconst (v := (-1)) dX10_see_1 (by decide) ?_
  refine rv_icmp_ne 12 dX10_see_2 (by decide) (fun c1 => ?_) (fun c1 => ?_)
  · replace h := rIfF h c1
    refine rv_aload_n 0 dX10_see_12 rfl ?_
    refine rv_iload_n 1 dX10_see_13 rfl ?_
    refine rv_aload_n 0 dX10_see_14 rfl ?_
    refine rv_getI ff_X10_18 dX10_see_15 h (fun v2 h => ?_)
    obtain ⟨b4, h3, h⟩ := rBind h
    refine rv_callVr (k3 := 0) (n3 := 0) (st2 := []) caX10_isSet cvX10_isSet ml_X10_284 dX10_see_18 rfl (E_X10_isSet h3).2 (E_X10_isSet h3).1 rfl rfl rfl rfl rfl ?_
    clear h3
    refine rv_if_ne 26 dX10_see_21 (by decide) (fun c5 => ?_) (fun c5 => ?_)
    · replace h := rIfF h c5
      refine rv_iload_n 2 dX10_see_26 rfl ?_
      refine rv_i2l dX10_see_27 ?_
      refine rv_ldc2 dX10_see_28 kl_X10_336 ?_
      refine rv_ldc2 dX10_see_31 kl_X10_338 ?_
      obtain ⟨b7, h6, h⟩ := rBind h
      refine rv_callSr (k3 := 0) (n3 := 0) (st2 := []) (As := [.long (Int32.toInt64 x2), .long (-999), .long 999]) caX10_in csX10_in ml_X10_116 dX10_see_34 rfl (E_X10_in h6) rfl rfl rfl rfl rfl ?_
      clear h6
      refine rv_if_ne 43 dX10_see_37 (by decide) (fun c8 => ?_) (fun c8 => ?_)
      · replace h := rIfF h c8
        refine rv_aload_n 0 dX10_see_43 rfl ?_
        refine rv_getI ff_X10_333 dX10_see_44 h (fun v9 h => ?_)
        refine rv_iconst (v := 4) dX10_see_47 (by decide) ?_
        refine rv_icmp_ne 54 dX10_see_48 (by decide) (fun c10 => ?_) (fun c10 => ?_)
        · replace h := rIfF h c10
          refine rv_aload_n 0 dX10_see_54 rfl ?_
          refine rv_getR ff_X10_37 dX10_see_55 h (fun a11 h => ?_)
          refine rv_aload_n 0 dX10_see_58 rfl ?_
          refine rv_getI ff_X10_333 dX10_see_59 h (fun v12 h => ?_)
          refine rv_iload_n 1 dX10_see_62 rfl ?_
          refine rv_iastore dX10_see_63 h (fun w13 h => ?_)
          refine rv_aload_n 0 dX10_see_64 rfl ?_
          refine rv_getR ff_X10_40 dX10_see_65 h (fun a14 h => ?_)
          refine rv_aload_n 0 dX10_see_68 rfl ?_
          refine rv_getI ff_X10_333 dX10_see_69 h (fun v15 h => ?_)
          refine rv_iload_n 2 dX10_see_72 rfl ?_
          refine rv_iastore dX10_see_73 h (fun w16 h => ?_)
          refine rv_aload_n 0 dX10_see_74 rfl ?_
          refine rv_dup dX10_see_75 rfl ?_
          refine rv_getI ff_X10_333 dX10_see_76 h (fun v17 h => ?_)
          refine rv_iconst (v := 1) dX10_see_79 (by decide) ?_
          refine rv_iadd dX10_see_80 ?_
          refine rv_putI ff_X10_333 (fp_X10_11 _) dX10_see_81 h (fun w18 h => ?_)
          refine rv_aload_n 0 dX10_see_84 rfl ?_
          refine rv_getI ff_X10_333 dX10_see_85 h (fun v19 h => ?_)
          exact rv_iret .int dX10_see_88 rfl rfl (rRetIw h)
        · replace h := rIfT h c10
          refine rv_bipush (v := (-4)) dX10_see_51 (by decide) ?_
          exact rv_iret .int dX10_see_53 rfl rfl (rRetIw h)
      · replace h := rIfT h c8
        refine rv_bipush (v := (-2)) dX10_see_40 (by decide) ?_
        exact rv_iret .int dX10_see_42 rfl rfl (rRetIw h)
    · replace h := rIfT h c5
      refine rv_iconst (v := (-1)) dX10_see_24 (by decide) ?_
      exact rv_iret .int dX10_see_25 rfl rfl (rRetIw h)
  · replace h := rIfT h c1
    refine rv_aload_n 0 dX10_see_5 rfl ?_
    refine rv_iconst (v := 0) dX10_see_6 (by decide) ?_
    refine rv_putI ff_X10_333 (fp_X10_11 _) dX10_see_7 h (fun w20 h => ?_)
    refine rv_iconst (v := 0) dX10_see_10 (by decide) ?_
    exact rv_iret .int dX10_see_11 rfl rfl (rRetIw h)
set_option maxRecDepth 20000 in
theorem E_X10_isSeen_2 {r0 : Bool}  (x0 : Nat) (w : rW)   : ∀ (f : Nat) (x1 : Int32), J_X10_isSeen_2 x0 w f x1 = some r0 → rEv mX10_isSeen 3 0 0 2 [(0, .ref x0), (1, .int x1)] [] w (rIs (some (.int (bi r0))) w) := by
  intro f
  induction f with
  | zero =>
    intro x1 h
    exact absurd (show (none : Option Bool) = some r0 from h) (by simp)
  | succ f ih =>
    intro x1 h
    rw [J_X10_isSeen_2] at h
    refine rv_iload_n 1 dX10_isSeen_2 rfl ?_
    refine rv_aload_n 0 dX10_isSeen_3 rfl ?_
    refine rv_getI ff_X10_333 dX10_isSeen_4 h (fun v1 h => ?_)
    refine rv_icmp_ge 54 dX10_isSeen_7 (by decide) (fun c2 => ?_) (fun c2 => ?_)
    · replace h := rIfT h c2
      refine rv_iconst (v := 1) dX10_isSeen_54 (by decide) ?_
      exact rv_iret .boolean dX10_isSeen_55 rfl (by decide) (rRetZp (x := 1) h rfl)
    · replace h := rIfF h c2
      refine rv_aload_n 0 dX10_isSeen_10 rfl ?_
      refine rv_aload_n 0 dX10_isSeen_11 rfl ?_
      refine rv_getR ff_X10_37 dX10_isSeen_12 h (fun a3 h => ?_)
      refine rv_iload_n 1 dX10_isSeen_15 rfl ?_
      refine rv_iaload dX10_isSeen_16 h (fun v4 h => ?_)
      refine rv_aload_n 0 dX10_isSeen_17 rfl ?_
      refine rv_getI ff_X10_18 dX10_isSeen_18 h (fun v5 h => ?_)
      obtain ⟨b7, h6, h⟩ := rBind h
      refine rv_callVr (k3 := 0) (n3 := 0) (st2 := []) caX10_isSet cvX10_isSet ml_X10_284 dX10_isSeen_21 rfl (E_X10_isSet h6).2 (E_X10_isSet h6).1 rfl rfl rfl rfl rfl ?_
      clear h6
      refine rv_if_eq 46 dX10_isSeen_24 (by decide) (fun c8 => ?_) (fun c8 => ?_)
      · replace h := rIfT h c8
        refine rv_iconst (v := 0) dX10_isSeen_46 (by decide) ?_
        exact rv_iret .boolean dX10_isSeen_47 rfl (by decide) (rRetZp (x := 0) h rfl)
      · replace h := rIfF h c8
        refine rv_aload_n 0 dX10_isSeen_27 rfl ?_
        refine rv_aload_n 0 dX10_isSeen_28 rfl ?_
        refine rv_getR ff_X10_37 dX10_isSeen_29 h (fun a9 h => ?_)
        refine rv_iload_n 1 dX10_isSeen_32 rfl ?_
        refine rv_iaload dX10_isSeen_33 h (fun v10 h => ?_)
        obtain ⟨v12, h11, h⟩ := rBind h
        refine rv_callVr (k3 := 0) (n3 := 0) (st2 := []) caX10_sumOf cvX10_sumOf ml_X10_170 dX10_isSeen_34 rfl (E_X10_sumOf h11).2 (E_X10_sumOf h11).1 rfl rfl rfl rfl rfl ?_
        clear h11
        refine rv_aload_n 0 dX10_isSeen_37 rfl ?_
        refine rv_getR ff_X10_40 dX10_isSeen_38 h (fun a13 h => ?_)
        refine rv_iload_n 1 dX10_isSeen_41 rfl ?_
        refine rv_iaload dX10_isSeen_42 h (fun v14 h => ?_)
        refine rv_icmp_eq 48 dX10_isSeen_43 (by decide) (fun c15 => ?_) (fun c15 => ?_)
        · replace h := rIfT h c15
          obtain ⟨v16, ev16, h⟩ := rLetE h
          refine rv_iinc (v := v16) (l2 := [(1, .int v16), (0, .ref x0)]) 1 dX10_isSeen_48 rfl (by rw [ev16]; rfl) rfl rfl ?_
          clear ev16
          refine rv_goto 2 dX10_isSeen_51 (by decide) ?_
          exact rv_sub [1, 0] rfl (ih v16 h)
        · replace h := rIfF h c15
          refine rv_iconst (v := 0) dX10_isSeen_46 (by decide) ?_
          exact rv_iret .boolean dX10_isSeen_47 rfl (by decide) (rRetZp (x := 0) h rfl)
set_option maxRecDepth 20000 in
theorem E_X10_isSeen {x0 : Nat} {r0 : Bool} {w : rW} (h : J_X10_isSeen x0 w = some r0) : (∃ fs, w[x0]? = some (cO 10 fs)) ∧ rMet mX10_isSeen 3 0 0 [.ref x0] w (rIs (some (.int (bi r0))) w) := by
  unfold J_X10_isSeen at h
  obtain ⟨hrc, h⟩ := rRc_some h
  refine ⟨hrc, ?_⟩
  refine rMet_of (by decide) rfl ?_
  refine rv_iconst (v := 0) dX10_isSeen_0 (by decide) ?_
  refine rv_istore_n (l2 := [(1, .int 0), (0, .ref x0)]) dX10_isSeen_1 rfl rfl ?_
  exact rv_sub [1, 0] rfl (E_X10_isSeen_2 x0 w 2000 0 h)
set_option maxRecDepth 20000 in
theorem E_X10_fits_37 {r0 : Int32} {w0 : rW}  (x0 : Nat) (x1 : Int32) (x2 : Int32) (x3 : Int32)  {K83 : Int32 → Int32 → rW → Option (Int32 × rW)} (hK83 : ∀ (y4 : Int32) (y5 : Int32) (w : rW), K83 y4 y5 w = some (r0, w0) → rEv mX10_fits 4 0 0 83 [(0, .ref x0), (1, .int x1), (2, .int x2), (3, .int x3), (4, .int y4), (5, .int y5)] [] w (rIs (some (.int r0)) w0)) : ∀ (f : Nat) (x4 : Int32) (x5 : Int32) (x6 : Int32) (w : rW), J_X10_fits_37 x0 x1 K83 f x4 x5 x6 w = some (r0, w0) → rEv mX10_fits 4 0 0 37 [(0, .ref x0), (1, .int x1), (2, .int x2), (3, .int x3), (4, .int x4), (5, .int x5), (6, .int x6)] [] w (rIs (some (.int r0)) w0) := by
  intro f
  induction f with
  | zero =>
    intro x4 x5 x6 w h
    exact absurd (show (none : Option (Int32 × rW)) = some (r0, w0) from h) (by simp)
  | succ f ih =>
    intro x4 x5 x6 w h
    rw [J_X10_fits_37] at h
    refine rv_iload 6 dX10_fits_37 rfl ?_
    refine rv_bipush (v := 9) dX10_fits_39 (by decide) ?_
    refine rv_icmp_gt 83 dX10_fits_41 (by decide) (fun c15 => ?_) (fun c15 => ?_)
    · replace h := rIfT h c15
      exact rv_sub [0, 1, 2, 3, 4, 5] rfl (hK83 x4 x5 w h)
    · replace h := rIfF h c15
      refine rv_aload_n 0 dX10_fits_44 rfl ?_
      refine rv_getR ff_X10_28 dX10_fits_45 h (fun a16 h => ?_)
      refine rv_iload_n 1 dX10_fits_48 rfl ?_
      refine rv_iload 6 dX10_fits_49 rfl ?_
      refine rv_iastore dX10_fits_51 h (fun w17 h => ?_)
      refine rv_aload_n 0 dX10_fits_52 rfl ?_
      obtain ⟨b19, h18, h⟩ := rBind h
      refine rv_callVr (k3 := 0) (n3 := 0) (st2 := []) caX10_isSeen cvX10_isSeen ml_X10_340 dX10_fits_53 rfl (E_X10_isSeen h18).2 (E_X10_isSeen h18).1 rfl rfl rfl rfl rfl ?_
      clear h18
      obtain ⟨K77, eK77, h⟩ := rLetE h
      have hK77 : ∀ (y4 : Int32) (y5 : Int32), K77 y4 y5 = some (r0, w0) → rEv mX10_fits 4 0 0 77 [(0, .ref x0), (1, .int x1), (2, .int x2), (3, .int x3), (4, .int y4), (5, .int y5), (6, .int x6)] [] w17 (rIs (some (.int r0)) w0) := by
        intro x4_20 x5_21 h
        rw [eK77] at h
        obtain ⟨v22, ev22, h⟩ := rLetE h
        refine rv_iinc (v := v22) (l2 := [(6, .int v22), (0, .ref x0), (1, .int x1), (2, .int x2), (3, .int x3), (4, .int x4_20), (5, .int x5_21)]) 6 dX10_fits_77 rfl (by rw [ev22]; rfl) rfl rfl ?_
        clear ev22
        refine rv_goto 37 dX10_fits_80 (by decide) ?_
        exact rv_sub [1, 2, 3, 4, 5, 6, 0] rfl (ih x4_20 x5_21 v22 w17 h)
      clear eK77
      refine rv_if_ne 62 dX10_fits_56 (by decide) (fun c23 => ?_) (fun c23 => ?_)
      · replace h := rIfF h c23
        obtain ⟨v24, ev24, h⟩ := rLetE h
        refine rv_iinc (v := v24) (l2 := [(4, .int v24), (0, .ref x0), (1, .int x1), (2, .int x2), (3, .int x3), (5, .int x5), (6, .int x6)]) 4 dX10_fits_62 rfl (by rw [ev24]; rfl) rfl rfl ?_
        clear ev24
        refine rv_iload 5 dX10_fits_65 rfl ?_
        refine rv_if_ne 77 dX10_fits_67 (by decide) (fun c25 => ?_) (fun c25 => ?_)
        · replace h := rIfF h c25
          exact rv_sub [1, 2, 3, 4, 0, 5, 6] rfl (hK77 v24 x5 h)
        · replace h := rIfT h c25
          refine rv_iload 6 dX10_fits_70 rfl ?_
          refine rv_bipush (v := 10) dX10_fits_72 (by decide) ?_
          refine rv_iadd dX10_fits_74 ?_
          refine rv_letI h (fun v26 h => ?_)
          refine rv_istore (l2 := [(5, .int v26), (4, .int v24), (0, .ref x0), (1, .int x1), (2, .int x2), (3, .int x3), (6, .int x6)]) dX10_fits_75 rfl rfl ?_
          exact rv_sub [2, 3, 4, 5, 1, 0, 6] rfl (hK77 v24 v26 h)
      · replace h := rIfT h c23
        refine rv_goto 77 dX10_fits_59 (by decide) ?_
        exact rv_sub [0, 1, 2, 3, 4, 5, 6] rfl (hK77 x4 x5 h)
set_option maxRecDepth 20000 in
theorem E_X10_fits {x0 : Nat} {x1 : Int32} {x2 : Int32} {r0 : Int32} {w0 : rW} {w : rW} (h : J_X10_fits x0 x1 x2 w = some (r0, w0)) : (∃ fs, w[x0]? = some (cO 10 fs)) ∧ rMet mX10_fits 4 0 0 [.ref x0, .int x1, .int x2] w (rIs (some (.int r0)) w0) := by
  unfold J_X10_fits at h
  obtain ⟨hrc, h⟩ := rRc_some h
  refine ⟨hrc, ?_⟩
  refine rMet_of (by decide) rfl ?_
  refine rv_aload_n 0 dX10_fits_0 rfl ?_
  refine rv_iload_n 1 dX10_fits_1 rfl ?_
  obtain ⟨b2, h1, h⟩ := rBind h
  refine rv_callVr (k3 := 0) (n3 := 0) (st2 := []) caX10_isBlock cvX10_isBlock ml_X10_140 dX10_fits_2 rfl (E_X10_isBlock h1).2 (E_X10_isBlock h1).1 rfl rfl rfl rfl rfl ?_
  clear h1
  refine rv_if_eq 18 dX10_fits_5 (by decide) (fun c3 => ?_) (fun c3 => ?_)
  · replace h := rIfT h c3
    refine rv_iconst (v := (-1)) dX10_fits_18 (by decide) ?_
    exact rv_iret .int dX10_fits_19 rfl rfl (rRetIw h)
  · replace h := rIfF h c3
    refine rv_iload_n 2 dX10_fits_8 rfl ?_
    refine rv_i2l dX10_fits_9 ?_
    refine rv_lconst (v := 0) dX10_fits_10 (by decide) ?_
    refine rv_lconst (v := 1) dX10_fits_11 (by decide) ?_
    obtain ⟨b5, h4, h⟩ := rBind h
    refine rv_callSr (k3 := 0) (n3 := 0) (st2 := []) (As := [.long (Int32.toInt64 x2), .long 0, .long 1]) caX10_in csX10_in ml_X10_116 dX10_fits_12 rfl (E_X10_in h4) rfl rfl rfl rfl rfl ?_
    clear h4
    refine rv_if_ne 20 dX10_fits_15 (by decide) (fun c6 => ?_) (fun c6 => ?_)
    · replace h := rIfF h c6
      refine rv_aload_n 0 dX10_fits_20 rfl ?_
      refine rv_getR ff_X10_28 dX10_fits_21 h (fun a7 h => ?_)
      refine rv_iload_n 1 dX10_fits_24 rfl ?_
      refine rv_iaload dX10_fits_25 h (fun v8 h => ?_)
      refine rv_istore_n (l2 := [(3, .int v8), (0, .ref x0), (1, .int x1), (2, .int x2)]) dX10_fits_26 rfl rfl ?_
      refine rv_iconst (v := 0) dX10_fits_27 (by decide) ?_
      refine rv_istore (l2 := [(4, .int 0), (3, .int v8), (0, .ref x0), (1, .int x1), (2, .int x2)]) dX10_fits_28 rfl rfl ?_
      refine rv_iconst (v := 0) dX10_fits_30 (by decide) ?_
      refine rv_istore (l2 := [(5, .int 0), (4, .int 0), (3, .int v8), (0, .ref x0), (1, .int x1), (2, .int x2)]) dX10_fits_31 rfl rfl ?_
      refine rv_bipush (v := (-9)) dX10_fits_33 (by decide) ?_
      refine rv_istore (l2 := [(6, .int (-9)), (5, .int 0), (4, .int 0), (3, .int v8), (0, .ref x0), (1, .int x1), (2, .int x2)]) dX10_fits_35 rfl rfl ?_
      obtain ⟨K83, eK83, h⟩ := rLetE h
      have hK83 : ∀ (y4 : Int32) (y5 : Int32) (w : rW), K83 y4 y5 w = some (r0, w0) → rEv mX10_fits 4 0 0 83 [(0, .ref x0), (1, .int x1), (2, .int x2), (3, .int v8), (4, .int y4), (5, .int y5)] [] w (rIs (some (.int r0)) w0) := by
        intro x4_9 x5_10 w11 h
        rw [eK83] at h
        refine rv_aload_n 0 dX10_fits_83 rfl ?_
        refine rv_getR ff_X10_28 dX10_fits_84 h (fun a12 h => ?_)
        refine rv_iload_n 1 dX10_fits_87 rfl ?_
        refine rv_iload_n 3 dX10_fits_88 rfl ?_
        refine rv_iastore dX10_fits_89 h (fun w13 h => ?_)
        refine rv_iload_n 2 dX10_fits_90 rfl ?_
        refine rv_if_ne 99 dX10_fits_91 (by decide) (fun c14 => ?_) (fun c14 => ?_)
        · replace h := rIfF h c14
          refine rv_iload 5 dX10_fits_99 rfl ?_
          exact rv_iret .int dX10_fits_101 rfl rfl (rRetIw h)
        · replace h := rIfT h c14
          refine rv_iload 4 dX10_fits_94 rfl ?_
          refine rv_goto 101 dX10_fits_96 (by decide) ?_
          exact rv_iret .int dX10_fits_101 rfl rfl (rRetIw h)
      clear eK83
      exact rv_sub [4, 5, 6, 3, 2, 1, 0] rfl (E_X10_fits_37 x0 x1 x2 v8 hK83 2000 0 0 (-9) w h)
    · replace h := rIfT h c6
      refine rv_iconst (v := (-1)) dX10_fits_18 (by decide) ?_
      exact rv_iret .int dX10_fits_19 rfl rfl (rRetIw h)
set_option maxRecDepth 20000 in
theorem E_X10_lowest_5 {r0 : Int64}  (x0 : Int32) (x1 : Int32) (x2 : Int32) (w : rW)  {K26 : Int32 → Option Int64} (hK26 : ∀ (y3 : Int32), K26 y3 = some r0 → rEv mX10_lowest 0 0 0 26 [(0, .int x0), (1, .int x1), (2, .int x2), (3, .int y3)] [] w (rIs (some (.long r0)) w)) : ∀ (f : Nat) (x3 : Int32) (x4 : Int32), J_X10_lowest_5 K26 f x3 x4 = some r0 → rEv mX10_lowest 0 0 0 5 [(0, .int x0), (1, .int x1), (2, .int x2), (3, .int x3), (4, .int x4)] [] w (rIs (some (.long r0)) w) := by
  intro f
  induction f with
  | zero =>
    intro x3 x4 h
    exact absurd (show (none : Option Int64) = some r0 from h) (by simp)
  | succ f ih =>
    intro x3 x4 h
    rw [J_X10_lowest_5] at h
    refine rv_iload 4 dX10_lowest_5 rfl ?_
    refine rv_if_eq 26 dX10_lowest_7 (by decide) (fun c5 => ?_) (fun c5 => ?_)
    · replace h := rIfT h c5
      exact rv_sub [0, 1, 2, 3] rfl (hK26 x3 h)
    · replace h := rIfF h c5
      refine rv_iload_n 3 dX10_lowest_10 rfl ?_
      refine rv_iload 4 dX10_lowest_11 rfl ?_
      refine rv_iremB dX10_lowest_13 h (fun v6 h => ?_)
      refine rv_istore (l2 := [(5, .int v6), (0, .int x0), (1, .int x1), (2, .int x2), (3, .int x3), (4, .int x4)]) dX10_lowest_14 rfl rfl ?_
      refine rv_iload 5 dX10_lowest_16 rfl ?_
      refine rv_istore_n (l2 := [(3, .int x4), (5, .int v6), (0, .int x0), (1, .int x1), (2, .int x2), (4, .int x4)]) dX10_lowest_18 rfl rfl ?_
      refine rv_iload 1 dX10_lowest_19 rfl ?_
      refine rv_istore (l2 := [(4, .int v6), (3, .int x4), (5, .int v6), (0, .int x0), (1, .int x1), (2, .int x2)]) dX10_lowest_21 rfl rfl ?_
      refine rv_goto 5 dX10_lowest_23 (by decide) ?_
      exact rv_sub [3, 4, 5, 1, 0] rfl (ih x4 v6 h)
set_option maxRecDepth 20000 in
theorem E_X10_lowest {x0 : Int32} {x1 : Int32} {x2 : Int32} {r0 : Int64} {w : rW} (h : J_X10_lowest x0 x1 x2 w = some r0) : rMet mX10_lowest 0 0 0 [.int x0, .int x1, .int x2] w (rIs (some (.long r0)) w) := by
  unfold J_X10_lowest at h
  refine rMet_of (by decide) rfl ?_
  refine rv_iload_n 0 dX10_lowest_0 rfl ?_
  refine rv_istore_n (l2 := [(3, .int x0), (0, .int x0), (1, .int x1), (2, .int x2)]) dX10_lowest_1 rfl rfl ?_
  refine rv_iload_n 2 dX10_lowest_2 rfl ?_
  refine rv_istore (l2 := [(4, .int x1), (3, .int x0), (0, .int x0), (1, .int x1), (2, .int x2)]) dX10_lowest_3 rfl rfl ?_
  obtain ⟨K26, eK26, h⟩ := rLetE h
  have hK26 : ∀ (y3 : Int32), K26 y3 = some r0 → rEv mX10_lowest 0 0 0 26 [(0, .int x0), (1, .int x1), (2, .int x2), (3, .int y3)] [] w (rIs (some (.long r0)) w) := by
    intro x3_1 h
    rw [eK26] at h
    refine rv_iload_n 2 dX10_lowest_26 rfl ?_
    refine rv_if_ne 37 dX10_lowest_27 (by decide) (fun c2 => ?_) (fun c2 => ?_)
    · replace h := rIfF h c2
      refine rv_iload_n 1 dX10_lowest_37 rfl ?_
      refine rv_iload_n 3 dX10_lowest_38 rfl ?_
      refine rv_idivB dX10_lowest_39 h (fun v3 h => ?_)
      refine rv_i2l dX10_lowest_40 ?_
      exact rv_lret dX10_lowest_41 rfl (rRetJp h)
    · replace h := rIfT h c2
      refine rv_iload_n 0 dX10_lowest_30 rfl ?_
      refine rv_iload_n 3 dX10_lowest_31 rfl ?_
      refine rv_idivB dX10_lowest_32 h (fun v4 h => ?_)
      refine rv_i2l dX10_lowest_33 ?_
      refine rv_goto 41 dX10_lowest_34 (by decide) ?_
      exact rv_lret dX10_lowest_41 rfl (rRetJp h)
  clear eK26
  exact rv_sub [2, 3, 4, 1, 0] rfl (E_X10_lowest_5 x0 x1 x2 w hK26 2000 x0 x1 h)
set_option maxRecDepth 20000 in
theorem E_X10_odds_31 {r0 : Int64}  (x0 : Nat) (x1 : Int32) (x2 : Int32) (w : rW)  {K62 : Int32 → Option Int64} (hK62 : ∀ (y3 : Int32), K62 y3 = some r0 → rEv mX10_odds 3 0 0 62 [(0, .ref x0), (1, .int x1), (2, .int x2), (3, .int y3)] [] w (rIs (some (.long r0)) w)) : ∀ (f : Nat) (x3 : Int32) (x4 : Int32), J_X10_odds_31 x0 x1 w K62 f x3 x4 = some r0 → rEv mX10_odds 3 0 0 31 [(0, .ref x0), (1, .int x1), (2, .int x2), (3, .int x3), (4, .int x4)] [] w (rIs (some (.long r0)) w) := by
  intro f
  induction f with
  | zero =>
    intro x3 x4 h
    exact absurd (show (none : Option Int64) = some r0 from h) (by simp)
  | succ f ih =>
    intro x3 x4 h
    rw [J_X10_odds_31] at h
    refine rv_iload 4 dX10_odds_31 rfl ?_
    refine rv_aload_n 0 dX10_odds_33 rfl ?_
    refine rv_getI ff_X10_110 dX10_odds_34 h (fun v13 h => ?_)
    refine rv_icmp_ge 62 dX10_odds_37 (by decide) (fun c14 => ?_) (fun c14 => ?_)
    · replace h := rIfT h c14
      exact rv_sub [0, 1, 2, 3] rfl (hK62 x3 h)
    · replace h := rIfF h c14
      refine rv_aload_n 0 dX10_odds_40 rfl ?_
      refine rv_getR ff_X10_21 dX10_odds_41 h (fun a15 h => ?_)
      refine rv_iload 4 dX10_odds_44 rfl ?_
      refine rv_iaload dX10_odds_46 h (fun v16 h => ?_)
      refine rv_iload_n 1 dX10_odds_47 rfl ?_
      refine rv_iand dX10_odds_48 ?_
      refine rv_iload_n 1 dX10_odds_49 rfl ?_
      obtain ⟨K56, eK56, h⟩ := rLetE h
      have hK56 : ∀ (y3 : Int32), K56 y3 = some r0 → rEv mX10_odds 3 0 0 56 [(0, .ref x0), (1, .int x1), (2, .int x2), (3, .int y3), (4, .int x4)] [] w (rIs (some (.long r0)) w) := by
        intro x3_17 h
        rw [eK56] at h
        obtain ⟨v18, ev18, h⟩ := rLetE h
        refine rv_iinc (v := v18) (l2 := [(4, .int v18), (0, .ref x0), (1, .int x1), (2, .int x2), (3, .int x3_17)]) 4 dX10_odds_56 rfl (by rw [ev18]; rfl) rfl rfl ?_
        clear ev18
        refine rv_goto 31 dX10_odds_59 (by decide) ?_
        exact rv_sub [1, 2, 3, 4, 0] rfl (ih x3_17 v18 h)
      clear eK56
      refine rv_icmp_ne 56 dX10_odds_50 (by decide) (fun c19 => ?_) (fun c19 => ?_)
      · replace h := rIfF h c19
        exact rv_sub [0, 1, 2, 3, 4] rfl (hK56 x3 h)
      · replace h := rIfT h c19
        obtain ⟨v20, ev20, h⟩ := rLetE h
        refine rv_iinc (v := v20) (l2 := [(3, .int v20), (0, .ref x0), (1, .int x1), (2, .int x2), (4, .int x4)]) 3 dX10_odds_53 rfl (by rw [ev20]; rfl) rfl rfl ?_
        clear ev20
        exact rv_sub [1, 2, 3, 0, 4] rfl (hK56 v20 h)

set_option maxRecDepth 20000 in
theorem E_X2_stepOfPairs {x0 : Nat} {x1 : Int32} {x2 : Int32} {r0 : Int64} {w : rW} (h : J_X2_stepOfPairs x0 x1 x2 w = some r0) : rMet mX2_stepOfPairs 1 0 0 [.ref x0, .int x1, .int x2] w (rIs (some (.long r0)) w) := by
  unfold J_X2_stepOfPairs at h
  refine rMet_of (by decide) rfl ?_
  refine rv_lconst (v := 0) dX2_stepOfPairs_0 (by decide) ?_
  refine rv_lstore_n (l2 := [(3, .long 0), (0, .ref x0), (1, .int x1), (2, .int x2)]) dX2_stepOfPairs_1 rfl rfl ?_
  refine rv_iconst (v := 0) dX2_stepOfPairs_2 (by decide) ?_
  refine rv_istore (l2 := [(5, .int 0), (3, .long 0), (0, .ref x0), (1, .int x1), (2, .int x2)]) dX2_stepOfPairs_3 rfl rfl ?_
  exact rv_sub [2, 3, 4, 1, 0] rfl (E_X2_stepOfPairs_5 x0 x1 x2 w 2000 0 0 h)
set_option maxRecDepth 20000 in
theorem E_X2_stepOf_5 {r0 : Int64}  (x0 : Nat) (x1 : Int32) (w : rW)   : ∀ (f : Nat) (x2 : Int64) (x4 : Int32), J_X2_stepOf_5 x0 x1 w f x2 x4 = some r0 → rEv mX2_stepOf 2 0 0 5 [(0, .ref x0), (1, .int x1), (2, .long x2), (4, .int x4)] [] w (rIs (some (.long r0)) w) := by
  intro f
  induction f with
  | zero =>
    intro x2 x4 h
    exact absurd (show (none : Option Int64) = some r0 from h) (by simp)
  | succ f ih =>
    intro x2 x4 h
    rw [J_X2_stepOf_5] at h
    refine rv_iload 3 dX2_stepOf_5 rfl ?_
    refine rv_aload_n 0 dX2_stepOf_7 rfl ?_
    refine rv_getI ff_X2_75 dX2_stepOf_8 h (fun v1 h => ?_)
    refine rv_icmp_ge 62 dX2_stepOf_11 (by decide) (fun c2 => ?_) (fun c2 => ?_)
    · replace h := rIfT h c2
      refine rv_lload_n 2 dX2_stepOf_62 rfl ?_
      exact rv_lret dX2_stepOf_63 rfl (rRetJp h)
    · replace h := rIfF h c2
      refine rv_aload_n 0 dX2_stepOf_14 rfl ?_
      refine rv_iload_n 1 dX2_stepOf_15 rfl ?_
      refine rv_iconst (v := 1) dX2_stepOf_16 (by decide) ?_
      refine rv_iload 3 dX2_stepOf_17 rfl ?_
      refine rv_ishl dX2_stepOf_19 ?_
      obtain ⟨b4, h3, h⟩ := rBind h
      refine rv_callVr (k3 := 0) (n3 := 0) (st2 := []) caX0_holds cvX0_holds ml_X2_78 dX2_stepOf_20 rfl (E_X0_holds h3).2 (E_X0_holds h3).1 rfl rfl rfl rfl rfl ?_
      clear h3
      obtain ⟨K56, eK56, h⟩ := rLetE h
      have hK56 : ∀ (y2 : Int64), K56 y2 = some r0 → rEv mX2_stepOf 2 0 0 56 [(0, .ref x0), (1, .int x1), (2, .long y2), (4, .int x4)] [] w (rIs (some (.long r0)) w) := by
        intro x2_5 h
        rw [eK56] at h
        obtain ⟨v6, ev6, h⟩ := rLetE h
        refine rv_iinc (v := v6) (l2 := [(4, .int v6), (0, .ref x0), (1, .int x1), (2, .long x2_5)]) 3 dX2_stepOf_56 rfl (by rw [ev6]; rfl) rfl rfl ?_
        clear ev6
        refine rv_goto 5 dX2_stepOf_59 (by decide) ?_
        exact rv_sub [1, 2, 3, 0] rfl (ih x2_5 v6 h)
      clear eK56
      refine rv_if_eq 56 dX2_stepOf_23 (by decide) (fun c7 => ?_) (fun c7 => ?_)
      · replace h := rIfT h c7
        exact rv_sub [0, 1, 2, 3] rfl (hK56 x2 h)
      · replace h := rIfF h c7
        refine rv_aload_n 0 dX2_stepOf_26 rfl ?_
        refine rv_getI ff_X2_41 dX2_stepOf_27 h (fun v8 h => ?_)
        refine rv_iconst (v := 1) dX2_stepOf_30 (by decide) ?_
        refine rv_icmp_ne 46 dX2_stepOf_31 (by decide) (fun c9 => ?_) (fun c9 => ?_)
        · replace h := rIfF h c9
          refine rv_lload_n 2 dX2_stepOf_46 rfl ?_
          refine rv_aload_n 0 dX2_stepOf_47 rfl ?_
          refine rv_iload_n 1 dX2_stepOf_48 rfl ?_
          refine rv_iload 3 dX2_stepOf_49 rfl ?_
          obtain ⟨v11, h10, h⟩ := rBind h
          refine rv_callSr (k3 := 0) (n3 := 0) (st2 := [.long x2]) (As := [.ref x0, .int x1, .int x4]) caX2_stepOfPairs csX2_stepOfPairs ml_X2_82 dX2_stepOf_51 rfl (E_X2_stepOfPairs h10) rfl rfl rfl rfl rfl ?_
          clear h10
          refine rv_ladd dX2_stepOf_54 ?_
          refine rv_letJ h (fun v12 h => ?_)
          refine rv_lstore_n (l2 := [(2, .long v12), (0, .ref x0), (1, .int x1), (4, .int x4)]) dX2_stepOf_55 rfl rfl ?_
          exact rv_sub [1, 2, 0, 3] rfl (hK56 v12 h)
        · replace h := rIfT h c9
          refine rv_lload_n 2 dX2_stepOf_34 rfl ?_
          refine rv_lconst (v := 1) dX2_stepOf_35 (by decide) ?_
          refine rv_iconst (v := 4) dX2_stepOf_36 (by decide) ?_
          refine rv_iload 3 dX2_stepOf_37 rfl ?_
          refine rv_imul dX2_stepOf_39 ?_
          refine rv_lshl dX2_stepOf_40 ?_
          refine rv_ladd dX2_stepOf_41 ?_
          refine rv_letJ h (fun v13 h => ?_)
          refine rv_lstore_n (l2 := [(2, .long v13), (0, .ref x0), (1, .int x1), (4, .int x4)]) dX2_stepOf_42 rfl rfl ?_
          refine rv_goto 56 dX2_stepOf_43 (by decide) ?_
          exact rv_sub [1, 2, 0, 3] rfl (hK56 v13 h)
set_option maxRecDepth 20000 in
theorem E_X2_stepOf {x0 : Nat} {x1 : Int32} {r0 : Int64} {w : rW} (h : J_X2_stepOf x0 x1 w = some r0) : rMet mX2_stepOf 2 0 0 [.ref x0, .int x1] w (rIs (some (.long r0)) w) := by
  unfold J_X2_stepOf at h
  refine rMet_of (by decide) rfl ?_
  refine rv_lconst (v := 0) dX2_stepOf_0 (by decide) ?_
  refine rv_lstore_n (l2 := [(2, .long 0), (0, .ref x0), (1, .int x1)]) dX2_stepOf_1 rfl rfl ?_
  refine rv_iconst (v := 0) dX2_stepOf_2 (by decide) ?_
  refine rv_istore (l2 := [(4, .int 0), (2, .long 0), (0, .ref x0), (1, .int x1)]) dX2_stepOf_3 rfl rfl ?_
  exact rv_sub [2, 3, 1, 0] rfl (E_X2_stepOf_5 x0 x1 w 2000 0 0 h)
set_option maxRecDepth 20000 in
theorem E_X2_addWay {x0 : Nat} {w0 : rW} {w : rW} (h : J_X2_addWay x0 w = some w0) : (∃ fs, w[x0]? = some (cO 2 fs)) ∧ rMet mX2_addWay 1 0 0 [.ref x0] w (rIs none w0) := by
  unfold J_X2_addWay at h
  obtain ⟨hrc, h⟩ := rRc_some h
  refine ⟨hrc, ?_⟩
  refine rMet_of (by decide) rfl ?_
  refine rv_aload_n 0 dX2_addWay_0 rfl ?_
  refine rv_getI ff_X2_9 dX2_addWay_1 h (fun v1 h => ?_)
  obtain ⟨K22, eK22, h⟩ := rLetE h
  have hK22 : ∀ (w : rW), K22 w = some w0 → rEv mX2_addWay 1 0 0 22 [(0, .ref x0)] [] w (rIs none w0) := by
    intro w2 h
    rw [eK22] at h
    refine rv_aload_n 0 dX2_addWay_22 rfl ?_
    refine rv_dup dX2_addWay_23 rfl ?_
    refine rv_getI ff_X2_9 dX2_addWay_24 h (fun v3 h => ?_)
    refine rv_iconst (v := 1) dX2_addWay_27 (by decide) ?_
    refine rv_iadd dX2_addWay_28 ?_
    refine rv_putI ff_X2_9 (fp_X2_0 _) dX2_addWay_29 h (fun w4 h => ?_)
    exact rv_vret dX2_addWay_32 rfl (rRetV h)
  clear eK22
  refine rv_if_ne 22 dX2_addWay_4 (by decide) (fun c5 => ?_) (fun c5 => ?_)
  · replace h := rIfF h c5
    exact rv_sub [0] rfl (hK22 w h)
  · replace h := rIfT h c5
    refine rv_aload_n 0 dX2_addWay_7 rfl ?_
    refine rv_getR ff_X2_31 dX2_addWay_8 h (fun a6 h => ?_)
    refine rv_iconst (v := 0) dX2_addWay_11 (by decide) ?_
    refine rv_aload_n 0 dX2_addWay_12 rfl ?_
    refine rv_getR ff_X2_35 dX2_addWay_13 h (fun a7 h => ?_)
    refine rv_iconst (v := 0) dX2_addWay_16 (by decide) ?_
    refine rv_bipush (v := 20) dX2_addWay_17 (by decide) ?_
    refine rv_copyI ml_X2_100 nt_J10_arraycopy sm_J10_arraycopy in_J10 dX2_addWay_19 rfl rfl h (fun w8 h => ?_)
    exact rv_sub [0] rfl (hK22 w8 h)
set_option maxRecDepth 20000 in
theorem E_X2_placeBlock_27 {w0 : rW} (fr : Nat) {rec : Nat → Int32 → Int32 → rW → Option rW} (hrec : ∀ (a0 : Nat) (a1 : Int32) (a2 : Int32) (w1 w2 : rW), rec a0 a1 a2 w1 = some w2 → rMet mX2_placeBlock (2 + fr) 0 0 [.ref a0, .int a1, .int a2] w1 (rIs none w2))  (x0 : Nat) (x1 : Int32) (x2 : Int32) (x3 : Int32)   : ∀ (f : Nat) (x4 : Int32) (w : rW), J_X2_placeBlock_27 rec x0 x1 x2 x3 f x4 w = some w0 → rEv mX2_placeBlock (2 + (fr + 1)) 0 0 27 [(0, .ref x0), (1, .int x1), (2, .int x2), (3, .int x3), (4, .int x4)] [] w (rIs none w0) := by
  intro f
  induction f with
  | zero =>
    intro x4 w h
    exact absurd (show (none : Option rW) = some w0 from h) (by simp)
  | succ f ih =>
    intro x4 w h
    rw [J_X2_placeBlock_27] at h
    refine rv_iload 4 dX2_placeBlock_27 rfl ?_
    refine rv_iload_n 3 dX2_placeBlock_29 rfl ?_
    refine rv_icmp_ge 111 dX2_placeBlock_30 (by decide) (fun c5 => ?_) (fun c5 => ?_)
    · replace h := rIfT h c5
      exact rv_vret dX2_placeBlock_111 rfl (rRetV h)
    · replace h := rIfF h c5
      refine rv_aload_n 0 dX2_placeBlock_33 rfl ?_
      refine rv_getR ff_X2_28 dX2_placeBlock_34 h (fun a6 h => ?_)
      refine rv_iload 4 dX2_placeBlock_37 rfl ?_
      refine rv_laload dX2_placeBlock_39 h (fun v7 h => ?_)
      refine rv_lstore (l2 := [(5, .long v7), (0, .ref x0), (1, .int x1), (2, .int x2), (3, .int x3), (4, .int x4)]) dX2_placeBlock_40 rfl rfl ?_
      refine rv_lload 0 dX2_placeBlock_42 rfl ?_
      refine rv_aload_n 1 dX2_placeBlock_44 rfl ?_
      refine rv_getR ff_X2_24 dX2_placeBlock_45 h (fun a8 h => ?_)
      refine rv_iload_n 2 dX2_placeBlock_48 rfl ?_
      refine rv_laload dX2_placeBlock_49 h (fun v9 h => ?_)
      refine rv_ladd dX2_placeBlock_50 ?_
      refine rv_letJ h (fun v10 h => ?_)
      refine rv_lstore (l2 := [(7, .long v10), (5, .long v7), (0, .ref x0), (1, .int x1), (2, .int x2), (3, .int x3), (4, .int x4)]) dX2_placeBlock_51 rfl rfl ?_
      refine rv_lload 0 dX2_placeBlock_53 rfl ?_
      refine rv_ldc2 dX2_placeBlock_55 kl_X2_95 ?_
      refine rv_land dX2_placeBlock_58 ?_
      refine rv_lconst (v := 0) dX2_placeBlock_59 (by decide) ?_
      refine rv_lcmp dX2_placeBlock_60 ?_
      obtain ⟨K105, eK105, h⟩ := rLetE h
      have hK105 : ∀ (w : rW), K105 w = some w0 → rEv mX2_placeBlock (2 + (fr + 1)) 0 0 105 [(0, .ref x0), (1, .int x1), (2, .int x2), (3, .int x3), (4, .int x4)] [] w (rIs none w0) := by
        intro w11 h
        rw [eK105] at h
        obtain ⟨v12, ev12, h⟩ := rLetE h
        refine rv_iinc (v := v12) (l2 := [(4, .int v12), (0, .ref x0), (1, .int x1), (2, .int x2), (3, .int x3)]) 4 dX2_placeBlock_105 rfl (by rw [ev12]; rfl) rfl rfl ?_
        clear ev12
        refine rv_goto 27 dX2_placeBlock_108 (by decide) ?_
        exact rv_sub [1, 2, 3, 4, 0] rfl (ih v12 w11 h)
      clear eK105
      refine rv_if_ne 105 dX2_placeBlock_61 (by decide) (fun c13 => ?_) (fun c13 => ?_)
      · replace h := rIfF h c13
        exact rv_sub [2, 3, 4, 5, 6] rfl (hK105 w h)
      · replace h := rIfT h c13
        refine rv_aload_n 2 dX2_placeBlock_64 rfl ?_
        refine rv_getR ff_X2_28 dX2_placeBlock_65 h (fun a14 h => ?_)
        refine rv_iload 6 dX2_placeBlock_68 rfl ?_
        refine rv_lload 0 dX2_placeBlock_70 rfl ?_
        refine rv_lastore dX2_placeBlock_72 h (fun w15 h => ?_)
        refine rv_aload_n 2 dX2_placeBlock_73 rfl ?_
        refine rv_getR ff_X2_31 dX2_placeBlock_74 h (fun a16 h => ?_)
        refine rv_iload_n 3 dX2_placeBlock_77 rfl ?_
        refine rv_iload 6 dX2_placeBlock_78 rfl ?_
        refine rv_iastore dX2_placeBlock_80 h (fun w17 h => ?_)
        refine rv_aload_n 2 dX2_placeBlock_81 rfl ?_
        refine rv_iload_n 3 dX2_placeBlock_82 rfl ?_
        refine rv_iconst (v := 1) dX2_placeBlock_83 (by decide) ?_
        refine rv_iadd dX2_placeBlock_84 ?_
        refine rv_iload_n 4 dX2_placeBlock_85 rfl ?_
        refine rv_iload 6 dX2_placeBlock_86 rfl ?_
        refine rv_iconst (v := 1) dX2_placeBlock_88 (by decide) ?_
        refine rv_iadd dX2_placeBlock_89 ?_
        refine rv_mmax ml_X2_97 sm_J9_max_7cf53 in_J9 co_J9_max_7cf53 dX2_placeBlock_90 (Nat.ble_eq_true_of_le (by omega)) rfl ?_
        obtain ⟨w19, h18, h⟩ := rBind h
        refine rv_callSv (k3 := 0) (n3 := 0) (st2 := []) (As := [.ref x0, .int (x1 + 1), .int (jmax x2 (x4 + 1))]) caX2_placeBlock csX2_placeBlock ml_X2_71 dX2_placeBlock_93 (Nat.ble_eq_true_of_le (by omega)) (hrec _ _ _ _ _ h18) rfl rfl rfl rfl rfl ?_
        clear h18
        refine rv_aload_n 2 dX2_placeBlock_96 rfl ?_
        refine rv_getR ff_X2_28 dX2_placeBlock_97 h (fun a20 h => ?_)
        refine rv_iload 6 dX2_placeBlock_100 rfl ?_
        refine rv_lload 1 dX2_placeBlock_102 rfl ?_
        refine rv_lastore dX2_placeBlock_104 h (fun w21 h => ?_)
        exact rv_sub [2, 3, 4, 5, 6] rfl (hK105 w21 h)
set_option maxRecDepth 20000 in
theorem E_X2_placeBlock : ∀ (f : Nat) {x0 : Nat} {x1 : Int32} {x2 : Int32} {w w0 : rW}, J_X2_placeBlock f x0 x1 x2 w = some w0 → rMet mX2_placeBlock (2 + f) 0 0 [.ref x0, .int x1, .int x2] w (rIs none w0) := by
  intro f
  induction f with
  | zero =>
    intro x0 x1 x2 w w0 h
    exact absurd (show (none : Option rW) = some w0 from h) (by simp)
  | succ f ih =>
    intro x0 x1 x2 w w0 h
    have hrec : ∀ (a0 : Nat) (a1 : Int32) (a2 : Int32) (w1 w2 : rW), J_X2_placeBlock f a0 a1 a2 w1 = some w2 → rMet mX2_placeBlock (2 + f) 0 0 [.ref a0, .int a1, .int a2] w1 (rIs none w2) := fun a0 a1 a2 w1 w2 h => ih h
    rw [J_X2_placeBlock] at h
    refine rMet_of (by decide) rfl ?_
    refine rv_iload_n 1 dX2_placeBlock_0 rfl ?_
    refine rv_aload_n 0 dX2_placeBlock_1 rfl ?_
    refine rv_getI ff_X2_21 dX2_placeBlock_2 h (fun v1 h => ?_)
    refine rv_icmp_lt 13 dX2_placeBlock_5 (by decide) (fun c2 => ?_) (fun c2 => ?_)
    · replace h := rIfT h c2
      refine rv_iload_n 2 dX2_placeBlock_13 rfl ?_
      refine rv_iconst (v := 1) dX2_placeBlock_14 (by decide) ?_
      refine rv_iadd dX2_placeBlock_15 ?_
      refine rv_aload_n 0 dX2_placeBlock_16 rfl ?_
      refine rv_getI ff_X2_18 dX2_placeBlock_17 h (fun v3 h => ?_)
      refine rv_mmin ml_X2_89 sm_J9_min_7cf53 in_J9 co_J9_min_7cf53 dX2_placeBlock_20 (Nat.ble_eq_true_of_le (by omega)) rfl ?_
      refine rv_letI h (fun v4 h => ?_)
      refine rv_istore_n (l2 := [(3, .int v4), (0, .ref x0), (1, .int x1), (2, .int x2)]) dX2_placeBlock_23 rfl rfl ?_
      refine rv_iconst (v := 0) dX2_placeBlock_24 (by decide) ?_
      refine rv_istore (l2 := [(4, .int 0), (3, .int v4), (0, .ref x0), (1, .int x1), (2, .int x2)]) dX2_placeBlock_25 rfl rfl ?_
      exact rv_sub [2, 3, 4, 1, 0] rfl (E_X2_placeBlock_27 f hrec x0 x1 x2 v4 2000 0 w h)
    · replace h := rIfF h c2
      refine rv_aload_n 0 dX2_placeBlock_8 rfl ?_
      obtain ⟨w23, h22, h⟩ := rBind h
      refine rv_callVv (k3 := 0) (n3 := 0) (st2 := []) caX2_addWay cvX2_addWay ml_X2_86 dX2_placeBlock_9 (Nat.ble_eq_true_of_le (by omega)) (E_X2_addWay h22).2 (E_X2_addWay h22).1 rfl rfl rfl rfl rfl ?_
      clear h22
      exact rv_vret dX2_placeBlock_12 rfl (rRetV h)
set_option maxRecDepth 20000 in
theorem E_X2_look_89 {w0 : rW}  (x0 : Nat) (x1 : Nat)  {K117 : rW → Option rW} (hK117 : ∀ (w : rW), K117 w = some w0 → rEv mX2_look 43 0 0 117 [(0, .ref x0)] [] w (rIs none w0)) : ∀ (f : Nat) (x5 : Int32) (w : rW), J_X2_look_89 x0 x1 K117 f x5 w = some w0 → rEv mX2_look 43 0 0 89 [(0, .ref x0), (1, .ref x1), (5, .int x5)] [] w (rIs none w0) := by
  intro f
  induction f with
  | zero =>
    intro x5 w h
    exact absurd (show (none : Option rW) = some w0 from h) (by simp)
  | succ f ih =>
    intro x5 w h
    rw [J_X2_look_89] at h
    refine rv_iload 2 dX2_look_89 rfl ?_
    refine rv_aload_n 0 dX2_look_91 rfl ?_
    refine rv_getI ff_X2_21 dX2_look_92 h (fun v28 h => ?_)
    refine rv_icmp_ge 117 dX2_look_95 (by decide) (fun c29 => ?_) (fun c29 => ?_)
    · replace h := rIfT h c29
      exact rv_sub [0] rfl (hK117 w h)
    · replace h := rIfF h c29
      refine rv_aload_n 0 dX2_look_98 rfl ?_
      refine rv_getR ff_X2_24 dX2_look_99 h (fun a30 h => ?_)
      refine rv_iload 2 dX2_look_102 rfl ?_
      refine rv_aload_n 1 dX2_look_104 rfl ?_
      refine rv_iload 2 dX2_look_105 rfl ?_
      obtain ⟨v32, h31, h⟩ := rBind h
      refine rv_callSr (k3 := 0) (n3 := 0) (st2 := [.int x5, .ref a30]) (As := [.ref x1, .int x5]) caX2_stepOf csX2_stepOf ml_X2_67 dX2_look_107 rfl (E_X2_stepOf h31) rfl rfl rfl rfl rfl ?_
      clear h31
      refine rv_lastore dX2_look_110 h (fun w33 h => ?_)
      obtain ⟨v34, ev34, h⟩ := rLetE h
      refine rv_iinc (v := v34) (l2 := [(5, .int v34), (0, .ref x0), (1, .ref x1)]) 2 dX2_look_111 rfl (by rw [ev34]; rfl) rfl rfl ?_
      clear ev34
      refine rv_goto 89 dX2_look_114 (by decide) ?_
      exact rv_sub [1, 2, 0] rfl (ih v34 w33 h)
set_option maxRecDepth 20000 in
theorem E_X2_look {x0 : Nat} {x1 : Nat} {x2 : Int32} {w0 : rW} {w : rW} (h : J_X2_look x0 x1 x2 w = some w0) : (∃ fs, w[x0]? = some (cO 2 fs)) ∧ rMet mX2_look 43 0 0 [.ref x0, .ref x1, .int x2] w (rIs none w0) := by
  unfold J_X2_look at h
  obtain ⟨hrc, h⟩ := rRc_some h
  refine ⟨hrc, ?_⟩
  refine rMet_of (by decide) rfl ?_
  refine rv_bipush (v := 10) dX2_look_0 (by decide) ?_
  refine rv_aload_n 1 dX2_look_2 rfl ?_
  obtain ⟨v2, h1, h⟩ := rBind h
  refine rv_callVr (k3 := 0) (n3 := 0) (st2 := [.int 10]) caX0_sizes cvX0_sizes ml_X2_47 dX2_look_3 rfl (E_X0_sizes h1).2 (E_X0_sizes h1).1 rfl rfl rfl rfl rfl ?_
  clear h1
  refine rv_imul dX2_look_6 ?_
  refine rv_iload_n 2 dX2_look_7 rfl ?_
  refine rv_iadd dX2_look_8 ?_
  refine rv_letI h (fun v3 h => ?_)
  refine rv_istore_n (l2 := [(3, .int v3), (0, .ref x0), (1, .ref x1), (2, .int x2)]) dX2_look_9 rfl rfl ?_
  refine rv_iload_n 0 dX2_look_10 rfl ?_
  refine rv_aload_n 1 dX2_look_11 rfl ?_
  refine rv_getI ff_X2_15 dX2_look_12 h (fun v4 h => ?_)
  refine rv_icmp_eq 32 dX2_look_15 (by decide) (fun c5 => ?_) (fun c5 => ?_)
  · replace h := rIfT h c5
    exact rv_vret dX2_look_32 rfl (rRetV h)
  · replace h := rIfF h c5
    refine rv_iload_n 3 dX2_look_18 rfl ?_
    obtain ⟨b7, h6, h⟩ := rBind h
    refine rv_callSr (k3 := 0) (n3 := 0) (st2 := []) (As := [.int x2]) caX2_isParts csX2_isParts ml_X2_51 dX2_look_19 rfl (E_X2_isParts h6) rfl rfl rfl rfl rfl ?_
    clear h6
    refine rv_if_eq 32 dX2_look_22 (by decide) (fun c8 => ?_) (fun c8 => ?_)
    · replace h := rIfT h c8
      exact rv_vret dX2_look_32 rfl (rRetV h)
    · replace h := rIfF h c8
      refine rv_aload_n 2 dX2_look_25 rfl ?_
      obtain ⟨b10, h9, h⟩ := rBind h
      refine rv_callSr (k3 := 0) (n3 := 0) (st2 := []) (As := [.ref x1]) caX2_isLookedFor csX2_isLookedFor ml_X2_55 dX2_look_26 rfl (E_X2_isLookedFor h9) rfl rfl rfl rfl rfl ?_
      clear h9
      refine rv_if_ne 33 dX2_look_29 (by decide) (fun c11 => ?_) (fun c11 => ?_)
      · replace h := rIfF h c11
        refine rv_aload_n 1 dX2_look_33 rfl ?_
        refine rv_iload_n 0 dX2_look_34 rfl ?_
        refine rv_putI ff_X2_15 (fp_X2_1 _) dX2_look_35 h (fun w12 h => ?_)
        refine rv_aload_n 1 dX2_look_38 rfl ?_
        refine rv_iconst (v := 0) dX2_look_39 (by decide) ?_
        refine rv_putI ff_X2_9 (fp_X2_0 _) dX2_look_40 h (fun w13 h => ?_)
        refine rv_aload_n 1 dX2_look_43 rfl ?_
        refine rv_iload_n 3 dX2_look_44 rfl ?_
        refine rv_putI ff_X2_18 (fp_X2_2 _) dX2_look_45 h (fun w14 h => ?_)
        refine rv_aload_n 1 dX2_look_48 rfl ?_
        refine rv_aload_n 2 dX2_look_49 rfl ?_
        refine rv_getI ff_X2_38 dX2_look_50 h (fun v15 h => ?_)
        refine rv_putI ff_X2_21 (fp_X2_3 _) dX2_look_53 h (fun w16 h => ?_)
        refine rv_aload_n 2 dX2_look_56 rfl ?_
        refine rv_iconst (v := 1) dX2_look_57 (by decide) ?_
        refine rv_aload_n 2 dX2_look_58 rfl ?_
        refine rv_getI ff_X2_41 dX2_look_59 h (fun v17 h => ?_)
        refine rv_ishl dX2_look_62 ?_
        refine rv_iconst (v := 1) dX2_look_63 (by decide) ?_
        refine rv_isub dX2_look_64 ?_
        obtain ⟨v19, h18, h⟩ := rBind h
        refine rv_callVr (k3 := 0) (n3 := 0) (st2 := []) caX0_holding cvX0_holding ml_X2_59 dX2_look_65 rfl (E_X0_holding h18).2 (E_X0_holding h18).1 rfl rfl rfl rfl rfl ?_
        clear h18
        refine rv_istore (l2 := [(4, .int v19), (3, .int v3), (0, .ref x0), (1, .ref x1), (2, .int x2)]) dX2_look_68 rfl rfl ?_
        refine rv_iload 0 dX2_look_70 rfl ?_
        refine rv_iload_n 4 dX2_look_72 rfl ?_
        refine rv_iremB dX2_look_73 h (fun v20 h => ?_)
        refine rv_if_eq 78 dX2_look_74 (by decide) (fun c21 => ?_) (fun c21 => ?_)
        · replace h := rIfT h c21
          refine rv_aload_n 2 dX2_look_78 rfl ?_
          refine rv_iload 0 dX2_look_79 rfl ?_
          refine rv_iload_n 4 dX2_look_81 rfl ?_
          refine rv_idivB dX2_look_82 h (fun v22 h => ?_)
          obtain ⟨w24, h23, h⟩ := rBind h
          refine rv_callVv (k3 := 0) (n3 := 0) (st2 := []) caX2_startTallies cvX2_startTallies ml_X2_63 dX2_look_83 rfl (E_X2_startTallies h23).2 (E_X2_startTallies h23).1 rfl rfl rfl rfl rfl ?_
          clear h23
          refine rv_iconst (v := 0) dX2_look_86 (by decide) ?_
          refine rv_istore (l2 := [(5, .int 0), (4, .int v19), (3, .int v3), (0, .ref x0), (1, .ref x1), (2, .int x2)]) dX2_look_87 rfl rfl ?_
          obtain ⟨K117, eK117, h⟩ := rLetE h
          have hK117 : ∀ (w : rW), K117 w = some w0 → rEv mX2_look 43 0 0 117 [(0, .ref x0)] [] w (rIs none w0) := by
            intro w25 h
            rw [eK117] at h
            refine rv_aload_n 0 dX2_look_117 rfl ?_
            refine rv_iconst (v := 0) dX2_look_118 (by decide) ?_
            refine rv_iconst (v := 0) dX2_look_119 (by decide) ?_
            obtain ⟨w27, h26, h⟩ := rBind h
            refine rv_callSv (k3 := 0) (n3 := 0) (st2 := []) (As := [.ref x0, .int 0, .int 0]) caX2_placeBlock csX2_placeBlock ml_X2_71 dX2_look_120 rfl (E_X2_placeBlock 40 h26) rfl rfl rfl rfl rfl ?_
            clear h26
            exact rv_vret dX2_look_123 rfl (rRetV h)
          clear eK117
          exact rv_sub [3, 4, 0] rfl (E_X2_look_89 x0 x1 hK117 2000 0 w24 h)
        · replace h := rIfF h c21
          exact rv_vret dX2_look_77 rfl (rRetV h)
      · replace h := rIfT h c11
        exact rv_vret dX2_look_32 rfl (rRetV h)
set_option maxRecDepth 20000 in
theorem E_X3_init {x0 : Nat} {x1 : Int32} {w0 : rW} {w : rW} (h : J_X3_init x0 x1 w = some w0) : rMet mX3_init 1 2 16 [.ref x0, .int x1] w (rIs none w0) := by
  unfold J_X3_init at h
  refine rMet_of (by decide) rfl ?_
  refine rv_aload_n 0 dX3_init_0 rfl ?_
  refine rv_objInit ml_X3_3 im_java_lang_Object__init_ co_object dX3_init_1 rfl rfl ?_
  refine rv_aload_n 0 dX3_init_4 rfl ?_
  refine rv_iconst (v := 0) dX3_init_5 (by decide) ?_
  refine rv_putI ff_X3_9 (fp_X3_2 _) dX3_init_6 h (fun w1 h => ?_)
  refine rv_aload_n 0 dX3_init_9 rfl ?_
  refine rv_iload_n 1 dX3_init_10 rfl ?_
  refine rv_iconst (v := 0) dX3_init_11 (by decide) ?_
  refine rv_mmax ml_X3_15 sm_J9_max_7cf53 in_J9 co_J9_max_7cf53 dX3_init_12 rfl rfl ?_
  refine rv_newIB (b := 8) (by decide) dX3_init_15 h (fun a2 w3 h => ?_)
  refine rv_putFA ff_X3_21 fp_X3_0 dX3_init_17 rfl h (fun w4 h => ?_)
  refine rv_aload_n 0 dX3_init_20 rfl ?_
  refine rv_iload_n 1 dX3_init_21 rfl ?_
  refine rv_iconst (v := 0) dX3_init_22 (by decide) ?_
  refine rv_mmax ml_X3_15 sm_J9_max_7cf53 in_J9 co_J9_max_7cf53 dX3_init_23 rfl rfl ?_
  refine rv_newIB (b := 8) (by decide) dX3_init_26 h (fun a5 w6 h => ?_)
  refine rv_putFA ff_X3_25 fp_X3_1 dX3_init_28 rfl h (fun w7 h => ?_)
  exact rv_vret dX3_init_31 rfl (rRetV h)
set_option maxRecDepth 20000 in
theorem E_X3_becomeEmpty {x0 : Nat} {r0 : Int32} {w0 : rW} {w : rW} (h : J_X3_becomeEmpty x0 w = some (r0, w0)) : (∃ fs, w[x0]? = some (cO 3 fs)) ∧ rMet mX3_becomeEmpty 0 0 0 [.ref x0] w (rIs (some (.int r0)) w0) := by
  unfold J_X3_becomeEmpty at h
  obtain ⟨hrc, h⟩ := rRc_some h
  refine ⟨hrc, ?_⟩
  refine rMet_of (by decide) rfl ?_
  refine rv_aload_n 0 dX3_becomeEmpty_0 rfl ?_
  refine rv_iconst (v := 0) dX3_becomeEmpty_1 (by decide) ?_
  refine rv_putI ff_X3_9 (fp_X3_2 _) dX3_becomeEmpty_2 h (fun w1 h => ?_)
  refine rv_iconst (v := 0) dX3_becomeEmpty_5 (by decide) ?_
  exact rv_iret .int dX3_becomeEmpty_6 rfl rfl (rRetIw h)
set_option maxRecDepth 20000 in
theorem E_X3_addRow {x0 : Nat} {x1 : Int32} {x2 : Int32} {r0 : Int32} {w0 : rW} {w : rW} (h : J_X3_addRow x0 x1 x2 w = some (r0, w0)) : (∃ fs, w[x0]? = some (cO 3 fs)) ∧ rMet mX3_addRow 0 0 0 [.ref x0, .int x1, .int x2] w (rIs (some (.int r0)) w0) := by
  unfold J_X3_addRow at h
  obtain ⟨hrc, h⟩ := rRc_some h
  refine ⟨hrc, ?_⟩
  refine rMet_of (by decide) rfl ?_
  refine rv_aload_n 0 dX3_addRow_0 rfl ?_
  refine rv_getI ff_X3_9 dX3_addRow_1 h (fun v1 h => ?_)
  refine rv_aload_n 0 dX3_addRow_4 rfl ?_
  refine rv_getR ff_X3_21 dX3_addRow_5 h (fun a2 h => ?_)
  refine rv_alen dX3_addRow_8 h (fun v3 h => ?_)
  refine rv_icmp_lt 15 dX3_addRow_9 (by decide) (fun c4 => ?_) (fun c4 => ?_)
  · replace h := rIfT h c4
    refine rv_aload_n 0 dX3_addRow_15 rfl ?_
    refine rv_getR ff_X3_21 dX3_addRow_16 h (fun a5 h => ?_)
    refine rv_aload_n 0 dX3_addRow_19 rfl ?_
    refine rv_getI ff_X3_9 dX3_addRow_20 h (fun v6 h => ?_)
    refine rv_iload_n 1 dX3_addRow_23 rfl ?_
    refine rv_iastore dX3_addRow_24 h (fun w7 h => ?_)
    refine rv_aload_n 0 dX3_addRow_25 rfl ?_
    refine rv_getR ff_X3_25 dX3_addRow_26 h (fun a8 h => ?_)
    refine rv_aload_n 0 dX3_addRow_29 rfl ?_
    refine rv_getI ff_X3_9 dX3_addRow_30 h (fun v9 h => ?_)
    refine rv_iload_n 2 dX3_addRow_33 rfl ?_
    refine rv_iastore dX3_addRow_34 h (fun w10 h => ?_)
    refine rv_aload_n 0 dX3_addRow_35 rfl ?_
    refine rv_dup dX3_addRow_36 rfl ?_
    refine rv_getI ff_X3_9 dX3_addRow_37 h (fun v11 h => ?_)
    refine rv_iconst (v := 1) dX3_addRow_40 (by decide) ?_
    refine rv_iadd dX3_addRow_41 ?_
    refine rv_putI ff_X3_9 (fp_X3_2 _) dX3_addRow_42 h (fun w12 h => ?_)
    refine rv_aload_n 0 dX3_addRow_45 rfl ?_
    refine rv_getI ff_X3_9 dX3_addRow_46 h (fun v13 h => ?_)
    exact rv_iret .int dX3_addRow_49 rfl rfl (rRetIw h)
  · replace h := rIfF h c4
    refine rv_bipush (v := (-4)) dX3_addRow_12 (by decide) ?_
    exact rv_iret .int dX3_addRow_14 rfl rfl (rRetIw h)
set_option maxRecDepth 20000 in
theorem E_X3_copyFrom_7 {w0 : rW}  (x0 : Nat) (x1 : Nat)   : ∀ (f : Nat) (x2 : Int32) (w : rW), J_X3_copyFrom_7 x0 x1 f x2 w = some w0 → rEv mX3_copyFrom 1 0 0 7 [(0, .ref x0), (1, .ref x1), (2, .int x2)] [] w (rIs none w0) := by
  intro f
  induction f with
  | zero =>
    intro x2 w h
    exact absurd (show (none : Option rW) = some w0 from h) (by simp)
  | succ f ih =>
    intro x2 w h
    rw [J_X3_copyFrom_7] at h
    refine rv_iload_n 2 dX3_copyFrom_7 rfl ?_
    refine rv_aload_n 1 dX3_copyFrom_8 rfl ?_
    refine rv_getI ff_X3_9 dX3_copyFrom_9 h (fun v2 h => ?_)
    refine rv_icmp_ge 38 dX3_copyFrom_12 (by decide) (fun c3 => ?_) (fun c3 => ?_)
    · replace h := rIfT h c3
      exact rv_vret dX3_copyFrom_38 rfl (rRetV h)
    · replace h := rIfF h c3
      refine rv_aload_n 0 dX3_copyFrom_15 rfl ?_
      refine rv_aload_n 1 dX3_copyFrom_16 rfl ?_
      refine rv_getR ff_X3_21 dX3_copyFrom_17 h (fun a4 h => ?_)
      refine rv_iload_n 2 dX3_copyFrom_20 rfl ?_
      refine rv_iaload dX3_copyFrom_21 h (fun v5 h => ?_)
      refine rv_aload_n 1 dX3_copyFrom_22 rfl ?_
      refine rv_getR ff_X3_25 dX3_copyFrom_23 h (fun a6 h => ?_)
      refine rv_iload_n 2 dX3_copyFrom_26 rfl ?_
      refine rv_iaload dX3_copyFrom_27 h (fun v7 h => ?_)
      obtain ⟨v9, w10, h8, h⟩ := rB2_some h
      refine rv_callVr (k3 := 0) (n3 := 0) (st2 := []) caX3_addRow cvX3_addRow ml_X3_28 dX3_copyFrom_28 rfl (E_X3_addRow h8).2 (E_X3_addRow h8).1 rfl rfl rfl rfl rfl ?_
      clear h8
      refine rv_pop dX3_copyFrom_31 rfl ?_
      obtain ⟨v11, ev11, h⟩ := rLetE h
      refine rv_iinc (v := v11) (l2 := [(2, .int v11), (0, .ref x0), (1, .ref x1)]) 2 dX3_copyFrom_32 rfl (by rw [ev11]; rfl) rfl rfl ?_
      clear ev11
      refine rv_goto 7 dX3_copyFrom_35 (by decide) ?_
      exact rv_sub [1, 2, 0] rfl (ih v11 w10 h)
set_option maxRecDepth 20000 in
theorem E_X3_copyFrom {x0 : Nat} {x1 : Nat} {w0 : rW} {w : rW} (h : J_X3_copyFrom x0 x1 w = some w0) : (∃ fs, w[x0]? = some (cO 3 fs)) ∧ rMet mX3_copyFrom 1 0 0 [.ref x0, .ref x1] w (rIs none w0) := by
  unfold J_X3_copyFrom at h
  obtain ⟨hrc, h⟩ := rRc_some h
  refine ⟨hrc, ?_⟩
  refine rMet_of (by decide) rfl ?_
  refine rv_aload_n 0 dX3_copyFrom_0 rfl ?_
  refine rv_iconst (v := 0) dX3_copyFrom_1 (by decide) ?_
  refine rv_putI ff_X3_9 (fp_X3_2 _) dX3_copyFrom_2 h (fun w1 h => ?_)
  refine rv_iconst (v := 0) dX3_copyFrom_5 (by decide) ?_
  refine rv_istore_n (l2 := [(2, .int 0), (0, .ref x0), (1, .ref x1)]) dX3_copyFrom_6 rfl rfl ?_
  exact rv_sub [1, 2, 0] rfl (E_X3_copyFrom_7 x0 x1 2000 0 w1 h)
set_option maxRecDepth 20000 in
theorem E_X4_init {x0 : Nat} {w0 : rW} {w : rW} (h : J_X4_init x0 w = some w0) : rMet mX4_init 1 3 148 [.ref x0] w (rIs none w0) := by
  unfold J_X4_init at h
  refine rMet_of (by decide) rfl ?_
  refine rv_aload_n 0 dX4_init_0 rfl ?_
  refine rv_objInit ml_X4_1 im_java_lang_Object__init_ co_object dX4_init_1 rfl rfl ?_
  refine rv_aload_n 0 dX4_init_4 rfl ?_
  refine rv_bipush (v := 100) dX4_init_5 (by decide) ?_
  refine rv_newIB (b := 100) (by decide) dX4_init_7 h (fun a1 w2 h => ?_)
  refine rv_putFA ff_X4_9 fp_X4_0 dX4_init_9 rfl h (fun w3 h => ?_)
  refine rv_aload_n 0 dX4_init_12 rfl ?_
  refine rv_iconst (v := 0) dX4_init_13 (by decide) ?_
  refine rv_putI ff_X4_13 (fp_X4_1 _) dX4_init_14 h (fun w4 h => ?_)
  refine rv_aload_n 0 dX4_init_17 rfl ?_
  refine rv_bipush (v := 12) dX4_init_18 (by decide) ?_
  refine rv_newIB (b := 12) (by decide) dX4_init_20 h (fun a5 w6 h => ?_)
  refine rv_putFA ff_X4_17 fp_X4_2 dX4_init_22 rfl h (fun w7 h => ?_)
  refine rv_aload_n 0 dX4_init_25 rfl ?_
  refine rv_bipush (v := 36) dX4_init_26 (by decide) ?_
  refine rv_newIB (b := 36) (by decide) dX4_init_28 h (fun a8 w9 h => ?_)
  refine rv_putFA ff_X4_20 fp_X4_3 dX4_init_30 rfl h (fun w10 h => ?_)
  refine rv_aload_n 0 dX4_init_33 rfl ?_
  refine rv_iconst (v := 0) dX4_init_34 (by decide) ?_
  refine rv_putI ff_X4_23 (fp_X4_4 _) dX4_init_35 h (fun w11 h => ?_)
  refine rv_aload_n 0 dX4_init_38 rfl ?_
  refine rv_iconst (v := 0) dX4_init_39 (by decide) ?_
  refine rv_putI ff_X4_26 (fp_X4_5 _) dX4_init_40 h (fun w12 h => ?_)
  exact rv_vret dX4_init_43 rfl (rRetV h)
set_option maxRecDepth 20000 in
theorem E_X4_addSign {x0 : Nat} {x1 : Int32} {r0 : Bool} {w0 : rW} {w : rW} (h : J_X4_addSign x0 x1 w = some (r0, w0)) : (∃ fs, w[x0]? = some (cO 4 fs)) ∧ rMet mX4_addSign 0 0 0 [.ref x0, .int x1] w (rIs (some (.int (bi r0))) w0) := by
  unfold J_X4_addSign at h
  obtain ⟨hrc, h⟩ := rRc_some h
  refine ⟨hrc, ?_⟩
  refine rMet_of (by decide) rfl ?_
  refine rv_aload_n 0 dX4_addSign_0 rfl ?_
  refine rv_getI ff_X4_13 dX4_addSign_1 h (fun v1 h => ?_)
  refine rv_bipush (v := 100) dX4_addSign_4 (by decide) ?_
  refine rv_icmp_lt 11 dX4_addSign_6 (by decide) (fun c2 => ?_) (fun c2 => ?_)
  · replace h := rIfT h c2
    refine rv_aload_n 0 dX4_addSign_11 rfl ?_
    refine rv_getR ff_X4_9 dX4_addSign_12 h (fun a3 h => ?_)
    refine rv_aload_n 0 dX4_addSign_15 rfl ?_
    refine rv_getI ff_X4_13 dX4_addSign_16 h (fun v4 h => ?_)
    refine rv_iload_n 1 dX4_addSign_19 rfl ?_
    refine rv_iastore dX4_addSign_20 h (fun w5 h => ?_)
    refine rv_aload_n 0 dX4_addSign_21 rfl ?_
    refine rv_dup dX4_addSign_22 rfl ?_
    refine rv_getI ff_X4_13 dX4_addSign_23 h (fun v6 h => ?_)
    refine rv_iconst (v := 1) dX4_addSign_26 (by decide) ?_
    refine rv_iadd dX4_addSign_27 ?_
    refine rv_putI ff_X4_13 (fp_X4_1 _) dX4_addSign_28 h (fun w7 h => ?_)
    refine rv_iconst (v := 1) dX4_addSign_31 (by decide) ?_
    exact rv_iret .boolean dX4_addSign_32 rfl (by decide) (rRetZw (x := 1) h rfl)
  · replace h := rIfF h c2
    refine rv_iconst (v := 0) dX4_addSign_9 (by decide) ?_
    exact rv_iret .boolean dX4_addSign_10 rfl (by decide) (rRetZw (x := 0) h rfl)
set_option maxRecDepth 20000 in
theorem E_X4_numberOf {x0 : Nat} {x1 : Int32} {x2 : Int32} {r0 : Int32} {w : rW} (h : J_X4_numberOf x0 x1 x2 w = some r0) : (∃ fs, w[x0]? = some (cO 4 fs)) ∧ rMet mX4_numberOf 0 0 0 [.ref x0, .int x1, .int x2] w (rIs (some (.int r0)) w) := by
  unfold J_X4_numberOf at h
  obtain ⟨hrc, h⟩ := rRc_some h
  refine ⟨hrc, ?_⟩
  refine rMet_of (by decide) rfl ?_
  refine rv_iload_n 1 dX4_numberOf_0 rfl ?_
  obtain ⟨K24, eK24, h⟩ := rLetE h
  have hK24 : ∀ (z0 : Int32), K24 z0 = some r0 → rEv mX4_numberOf 0 0 0 24 [(0, .ref x0), (1, .int x1), (2, .int x2)] [.int z0] w (rIs (some (.int r0)) w) := by
    intro z1 h
    rw [eK24] at h
    refine rv_istore_n (l2 := [(3, .int z1), (0, .ref x0), (1, .int x1), (2, .int x2)]) dX4_numberOf_24 rfl rfl ?_
    refine rv_iload_n 0 dX4_numberOf_25 rfl ?_
    refine rv_if_eq 42 dX4_numberOf_26 (by decide) (fun c2 => ?_) (fun c2 => ?_)
    · replace h := rIfT h c2
      refine rv_iconst (v := 0) dX4_numberOf_42 (by decide) ?_
      exact rv_iret .int dX4_numberOf_43 rfl rfl (rRetIp h)
    · replace h := rIfF h c2
      refine rv_aload_n 1 dX4_numberOf_29 rfl ?_
      refine rv_getR ff_X4_20 dX4_numberOf_30 h (fun a3 h => ?_)
      refine rv_iload_n 2 dX4_numberOf_33 rfl ?_
      refine rv_iconst (v := 3) dX4_numberOf_34 (by decide) ?_
      refine rv_imul dX4_numberOf_35 ?_
      refine rv_iload_n 3 dX4_numberOf_36 rfl ?_
      refine rv_iadd dX4_numberOf_37 ?_
      refine rv_iaload dX4_numberOf_38 h (fun v4 h => ?_)
      refine rv_goto 43 dX4_numberOf_39 (by decide) ?_
      exact rv_iret .int dX4_numberOf_43 rfl rfl (rRetIp h)
  clear eK24
  obtain ⟨K23, eK23, h⟩ := rLetE h
  have hK23 : K23 = some r0 → rEv mX4_numberOf 0 0 0 23 [(0, .ref x0), (1, .int x1), (2, .int x2)] [] w (rIs (some (.int r0)) w) := by
    intro h
    rw [eK23] at h
    refine rv_iconst (v := 0) dX4_numberOf_23 (by decide) ?_
    exact rv_sub [0, 1, 2] rfl (hK24 0 h)
  clear eK23
  refine rv_if_lt 23 dX4_numberOf_1 (by decide) (fun c5 => ?_) (fun c5 => ?_)
  · replace h := rIfT h c5
    exact rv_sub [0, 1, 2] rfl (hK23 h)
  · replace h := rIfF h c5
    refine rv_iload_n 1 dX4_numberOf_4 rfl ?_
    refine rv_bipush (v := 12) dX4_numberOf_5 (by decide) ?_
    refine rv_icmp_ge 23 dX4_numberOf_7 (by decide) (fun c6 => ?_) (fun c6 => ?_)
    · replace h := rIfT h c6
      exact rv_sub [0, 1, 2] rfl (hK23 h)
    · replace h := rIfF h c6
      refine rv_iload_n 2 dX4_numberOf_10 rfl ?_
      refine rv_if_lt 23 dX4_numberOf_11 (by decide) (fun c7 => ?_) (fun c7 => ?_)
      · replace h := rIfT h c7
        exact rv_sub [0, 1, 2] rfl (hK23 h)
      · replace h := rIfF h c7
        refine rv_iload_n 2 dX4_numberOf_14 rfl ?_
        refine rv_iconst (v := 3) dX4_numberOf_15 (by decide) ?_
        refine rv_icmp_ge 23 dX4_numberOf_16 (by decide) (fun c8 => ?_) (fun c8 => ?_)
        · replace h := rIfT h c8
          exact rv_sub [0, 1, 2] rfl (hK23 h)
        · replace h := rIfF h c8
          refine rv_iconst (v := 1) dX4_numberOf_19 (by decide) ?_
          refine rv_goto 24 dX4_numberOf_20 (by decide) ?_
          exact rv_sub [0, 1, 2] rfl (hK24 1 h)
set_option maxRecDepth 20000 in
theorem E_X4_passSign {x0 : Nat} {x1 : Int32} {r0 : Bool} {w0 : rW} {w : rW} (h : J_X4_passSign x0 x1 w = some (r0, w0)) : (∃ fs, w[x0]? = some (cO 4 fs)) ∧ rMet mX4_passSign 0 0 0 [.ref x0, .int x1] w (rIs (some (.int (bi r0))) w0) := by
  unfold J_X4_passSign at h
  obtain ⟨hrc, h⟩ := rRc_some h
  refine ⟨hrc, ?_⟩
  refine rMet_of (by decide) rfl ?_
  refine rv_aload_n 0 dX4_passSign_0 rfl ?_
  refine rv_getI ff_X4_26 dX4_passSign_1 h (fun v1 h => ?_)
  refine rv_aload_n 0 dX4_passSign_4 rfl ?_
  refine rv_getI ff_X4_13 dX4_passSign_5 h (fun v2 h => ?_)
  refine rv_icmp_ge 24 dX4_passSign_8 (by decide) (fun c3 => ?_) (fun c3 => ?_)
  · replace h := rIfT h c3
    refine rv_iconst (v := 0) dX4_passSign_24 (by decide) ?_
    exact rv_iret .boolean dX4_passSign_25 rfl (by decide) (rRetZw (x := 0) h rfl)
  · replace h := rIfF h c3
    refine rv_aload_n 0 dX4_passSign_11 rfl ?_
    refine rv_getR ff_X4_9 dX4_passSign_12 h (fun a4 h => ?_)
    refine rv_aload_n 0 dX4_passSign_15 rfl ?_
    refine rv_getI ff_X4_26 dX4_passSign_16 h (fun v5 h => ?_)
    refine rv_iaload dX4_passSign_19 h (fun v6 h => ?_)
    refine rv_iload_n 1 dX4_passSign_20 rfl ?_
    refine rv_icmp_eq 26 dX4_passSign_21 (by decide) (fun c7 => ?_) (fun c7 => ?_)
    · replace h := rIfT h c7
      refine rv_aload_n 0 dX4_passSign_26 rfl ?_
      refine rv_dup dX4_passSign_27 rfl ?_
      refine rv_getI ff_X4_26 dX4_passSign_28 h (fun v8 h => ?_)
      refine rv_iconst (v := 1) dX4_passSign_31 (by decide) ?_
      refine rv_iadd dX4_passSign_32 ?_
      refine rv_putI ff_X4_26 (fp_X4_5 _) dX4_passSign_33 h (fun w9 h => ?_)
      refine rv_iconst (v := 1) dX4_passSign_36 (by decide) ?_
      exact rv_iret .boolean dX4_passSign_37 rfl (by decide) (rRetZw (x := 1) h rfl)
    · replace h := rIfF h c7
      refine rv_iconst (v := 0) dX4_passSign_24 (by decide) ?_
      exact rv_iret .boolean dX4_passSign_25 rfl (by decide) (rRetZw (x := 0) h rfl)
set_option maxRecDepth 20000 in
theorem E_X4_nameOf {x0 : Int32} {r0 : UInt32} {w : rW} (h : J_X4_nameOf x0 w = some r0) : rMet mX4_nameOf 0 0 0 [.int x0] w (rIs (some (.float r0)) w) := by
  unfold J_X4_nameOf at h
  refine rMet_of (by decide) rfl ?_
  refine rv_iload_n 0 dX4_nameOf_0 rfl ?_
  refine rIf h (fun c1 h => ?_) (fun c1 h => ?_)
  · refine rv_tswIn 44 dX4_nameOf_1 c1 (by decide) (by decide) rfl (by decide) ?_
    refine rv_ldcT (tx := "size") 0 (by decide +kernel) dX4_nameOf_44 ?_
    exact rv_aretT "java/lang/String" dX4_nameOf_46 rfl (rRetTp h)
  refine rIf h (fun c2 h => ?_) (fun c2 h => ?_)
  · refine rv_tswIn 47 dX4_nameOf_1 c2 (by decide) (by decide) rfl (by decide) ?_
    refine rv_ldcT (tx := "count") 1 (by decide +kernel) dX4_nameOf_47 ?_
    exact rv_aretT "java/lang/String" dX4_nameOf_49 rfl (rRetTp h)
  refine rIf h (fun c3 h => ?_) (fun c3 h => ?_)
  · refine rv_tswIn 50 dX4_nameOf_1 c3 (by decide) (by decide) rfl (by decide) ?_
    refine rv_ldcT (tx := "twist") 2 (by decide +kernel) dX4_nameOf_50 ?_
    exact rv_aretT "java/lang/String" dX4_nameOf_52 rfl (rRetTp h)
  refine rIf h (fun c4 h => ?_) (fun c4 h => ?_)
  · refine rv_tswIn 53 dX4_nameOf_1 c4 (by decide) (by decide) rfl (by decide) ?_
    refine rv_ldcT (tx := "put") 3 (by decide +kernel) dX4_nameOf_53 ?_
    exact rv_aretT "java/lang/String" dX4_nameOf_55 rfl (rRetTp h)
  refine rIf h (fun c5 h => ?_) (fun c5 h => ?_)
  · refine rv_tswIn 56 dX4_nameOf_1 c5 (by decide) (by decide) rfl (by decide) ?_
    refine rv_ldcT (tx := "turn") 4 (by decide +kernel) dX4_nameOf_56 ?_
    exact rv_aretT "java/lang/String" dX4_nameOf_58 rfl (rRetTp h)
  refine rIf h (fun c6 h => ?_) (fun c6 h => ?_)
  · refine rv_tswIn 59 dX4_nameOf_1 c6 (by decide) (by decide) rfl (by decide) ?_
    refine rv_ldcT (tx := "swap") 5 (by decide +kernel) dX4_nameOf_59 ?_
    exact rv_aretT "java/lang/String" dX4_nameOf_61 rfl (rRetTp h)
  refine rIf h (fun c7 h => ?_) (fun c7 h => ?_)
  · refine rv_tswIn 62 dX4_nameOf_1 c7 (by decide) (by decide) rfl (by decide) ?_
    refine rv_ldcT (tx := "keep") 6 (by decide +kernel) dX4_nameOf_62 ?_
    exact rv_aretT "java/lang/String" dX4_nameOf_64 rfl (rRetTp h)
  refine rv_tswOut 65 [0, 1, 2, 3, 4, 5, 6] dX4_nameOf_1 (by decide) (by decide) (by decide) (fun v hv => ?_) ?_
  · simp only [List.mem_cons, List.not_mem_nil, or_false] at hv
    rcases hv with rfl | rfl | rfl | rfl | rfl | rfl | rfl
    · exact c1
    · exact c2
    · exact c3
    · exact c4
    · exact c5
    · exact c6
    · exact c7
  refine rv_ldcT (tx := "differ") 7 (by decide +kernel) dX4_nameOf_65 ?_
  exact rv_aretT "java/lang/String" dX4_nameOf_67 rfl (rRetTp h)
set_option maxRecDepth 20000 in
theorem E_X4_signsAlike_2 {r0 : Int32}  (x0 : Nat) (x1 : UInt32) (w : rW)   : ∀ (f : Nat) (x2 : Int32), J_X4_signsAlike_2 x0 x1 w f x2 = some r0 → rEv mX4_signsAlike 4 0 0 2 [(0, .ref x0), (1, .float x1), (2, .int x2)] [] w (rIs (some (.int r0)) w) := by
  intro f
  induction f with
  | zero =>
    intro x2 h
    exact absurd (show (none : Option Int32) = some r0 from h) (by simp)
  | succ f ih =>
    intro x2 h
    rw [J_X4_signsAlike_2] at h
    refine rv_iload_n 2 dX4_signsAlike_2 rfl ?_
    refine rv_aload_nT 1 dX4_signsAlike_3 rfl ?_
    obtain ⟨v1, h2, h⟩ := rBind h
    refine rv_callTr (k3 := 0) (n3 := 0) caJ0_length_8abf5 cvJ0_length_8abf5 ml_X4_55 dX4_signsAlike_4 rfl (E_length w h2) (tLen_some h2).1 rfl rfl rfl rfl rfl ?_
    clear h2
    refine rv_icmp_ge 48 dX4_signsAlike_7 (by decide) (fun c3 => ?_) (fun c3 => ?_)
    · replace h := rIfT h c3
      refine rv_iload_n 2 dX4_signsAlike_48 rfl ?_
      exact rv_iret .int dX4_signsAlike_49 rfl rfl (rRetIp h)
    · replace h := rIfF h c3
      refine rv_aload_n 0 dX4_signsAlike_10 rfl ?_
      refine rv_getI ff_X4_26 dX4_signsAlike_11 h (fun v4 h => ?_)
      refine rv_iload_n 2 dX4_signsAlike_14 rfl ?_
      refine rv_iadd dX4_signsAlike_15 ?_
      refine rv_aload_n 0 dX4_signsAlike_16 rfl ?_
      refine rv_getI ff_X4_13 dX4_signsAlike_17 h (fun v5 h => ?_)
      refine rv_icmp_ge 48 dX4_signsAlike_20 (by decide) (fun c6 => ?_) (fun c6 => ?_)
      · replace h := rIfT h c6
        refine rv_iload_n 2 dX4_signsAlike_48 rfl ?_
        exact rv_iret .int dX4_signsAlike_49 rfl rfl (rRetIp h)
      · replace h := rIfF h c6
        refine rv_aload_n 0 dX4_signsAlike_23 rfl ?_
        refine rv_getR ff_X4_9 dX4_signsAlike_24 h (fun a7 h => ?_)
        refine rv_aload_n 0 dX4_signsAlike_27 rfl ?_
        refine rv_getI ff_X4_26 dX4_signsAlike_28 h (fun v8 h => ?_)
        refine rv_iload_n 2 dX4_signsAlike_31 rfl ?_
        refine rv_iadd dX4_signsAlike_32 ?_
        refine rv_iaload dX4_signsAlike_33 h (fun v9 h => ?_)
        refine rv_aload_nT 1 dX4_signsAlike_34 rfl ?_
        refine rv_iload_n 2 dX4_signsAlike_35 rfl ?_
        obtain ⟨v10, h11, h⟩ := rBind h
        refine rv_callTr (k3 := 0) (n3 := 0) caJ0_charAt_5068e cvJ0_charAt_5068e ml_X4_65 dX4_signsAlike_36 rfl (E_charAt w h11) (tChr_some h11).1 rfl rfl rfl rfl rfl ?_
        clear h11
        refine rv_icmp_ne 48 dX4_signsAlike_39 (by decide) (fun c12 => ?_) (fun c12 => ?_)
        · replace h := rIfF h c12
          refine rv_iload_n 2 dX4_signsAlike_48 rfl ?_
          exact rv_iret .int dX4_signsAlike_49 rfl rfl (rRetIp h)
        · replace h := rIfT h c12
          obtain ⟨v13, ev13, h⟩ := rLetE h
          refine rv_iinc (v := v13) (l2 := [(2, .int v13), (0, .ref x0), (1, .float x1)]) 2 dX4_signsAlike_42 rfl (by rw [ev13]; rfl) rfl rfl ?_
          clear ev13
          refine rv_goto 2 dX4_signsAlike_45 (by decide) ?_
          exact rv_sub [1, 2, 0] rfl (ih v13 h)
set_option maxRecDepth 20000 in
theorem E_X4_signsAlike {x0 : Nat} {x1 : UInt32} {r0 : Int32} {w : rW} (h : J_X4_signsAlike x0 x1 w = some r0) : (∃ fs, w[x0]? = some (cO 4 fs)) ∧ rMet mX4_signsAlike 4 0 0 [.ref x0, .float x1] w (rIs (some (.int r0)) w) := by
  unfold J_X4_signsAlike at h
  obtain ⟨hrc, h⟩ := rRc_some h
  refine ⟨hrc, ?_⟩
  refine rMet_of (by decide) rfl ?_
  refine rv_iconst (v := 0) dX4_signsAlike_0 (by decide) ?_
  refine rv_istore_n (l2 := [(2, .int 0), (0, .ref x0), (1, .float x1)]) dX4_signsAlike_1 rfl rfl ?_
  exact rv_sub [1, 2, 0] rfl (E_X4_signsAlike_2 x0 x1 w 2000 0 h)
set_option maxRecDepth 20000 in
theorem E_X4_parseWord_4 {r0 : Int32} {w0 : rW}  (x0 : Nat) (w : rW)  {K57 : Int32 → Option (Int32 × rW)} (hK57 : ∀ (y1 : Int32), K57 y1 = some (r0, w0) → rEv mX4_parseWord 5 0 0 57 [(0, .ref x0), (1, .int y1)] [] w (rIs (some (.int r0)) w0)) : ∀ (f : Nat) (x1 : Int32) (x2 : Int32), J_X4_parseWord_4 x0 w K57 f x1 x2 = some (r0, w0) → rEv mX4_parseWord 5 0 0 4 [(0, .ref x0), (1, .int x1), (2, .int x2)] [] w (rIs (some (.int r0)) w0) := by
  intro f
  induction f with
  | zero =>
    intro x1 x2 h
    exact absurd (show (none : Option (Int32 × rW)) = some (r0, w0) from h) (by simp)
  | succ f ih =>
    intro x1 x2 h
    rw [J_X4_parseWord_4] at h
    refine rv_iload_n 2 dX4_parseWord_4 rfl ?_
    refine rv_bipush (v := 8) dX4_parseWord_5 (by decide) ?_
    refine rv_icmp_ge 57 dX4_parseWord_7 (by decide) (fun c4 => ?_) (fun c4 => ?_)
    · replace h := rIfT h c4
      exact rv_sub [0, 1] rfl (hK57 x1 h)
    · replace h := rIfF h c4
      refine rv_iload_n 2 dX4_parseWord_10 rfl ?_
      obtain ⟨v6, h5, h⟩ := rBind h
      refine rv_callSr (k3 := 0) (n3 := 0) (st2 := []) (As := [.int x2]) caX4_nameOf csX4_nameOf ml_X4_47 dX4_parseWord_11 rfl (E_X4_nameOf h5) rfl rfl rfl rfl rfl ?_
      clear h5
      refine rv_astore_nT (l2 := [(3, .float v6), (0, .ref x0), (1, .int x1), (2, .int x2)]) dX4_parseWord_14 rfl rfl ?_
      refine rv_aload_n 1 dX4_parseWord_15 rfl ?_
      refine rv_aload_nT 0 dX4_parseWord_16 rfl ?_
      obtain ⟨v8, h7, h⟩ := rBind h
      refine rv_callVr (k3 := 0) (n3 := 0) (st2 := []) caX4_signsAlike cvX4_signsAlike ml_X4_51 dX4_parseWord_17 rfl (E_X4_signsAlike h7).2 (E_X4_signsAlike h7).1 rfl rfl rfl rfl rfl ?_
      clear h7
      refine rv_istore (l2 := [(4, .int v8), (3, .float v6), (0, .ref x0), (1, .int x1), (2, .int x2)]) dX4_parseWord_20 rfl rfl ?_
      refine rv_iload 0 dX4_parseWord_22 rfl ?_
      refine rv_aload_nT 1 dX4_parseWord_24 rfl ?_
      obtain ⟨v9, h10, h⟩ := rBind h
      refine rv_callTr (k3 := 0) (n3 := 0) caJ0_length_8abf5 cvJ0_length_8abf5 ml_X4_55 dX4_parseWord_25 rfl (E_length w h10) (tLen_some h10).1 rfl rfl rfl rfl rfl ?_
      clear h10
      refine rv_icmp_ne 44 dX4_parseWord_28 (by decide) (fun c11 => ?_) (fun c11 => ?_)
      · replace h := rIfF h c11
        refine rv_iload_n 3 dX4_parseWord_44 rfl ?_
        refine rv_iload 0 dX4_parseWord_45 rfl ?_
        refine rv_mmax ml_X4_59 sm_J9_max_7cf53 in_J9 co_J9_max_7cf53 dX4_parseWord_47 rfl rfl ?_
        refine rv_letI h (fun v12 h => ?_)
        refine rv_istore_n (l2 := [(1, .int v12), (4, .int v8), (3, .float v6), (0, .ref x0), (2, .int x2)]) dX4_parseWord_50 rfl rfl ?_
        obtain ⟨v13, ev13, h⟩ := rLetE h
        refine rv_iinc (v := v13) (l2 := [(2, .int v13), (1, .int v12), (4, .int v8), (3, .float v6), (0, .ref x0)]) 4 dX4_parseWord_51 rfl (by rw [ev13]; rfl) rfl rfl ?_
        clear ev13
        refine rv_goto 4 dX4_parseWord_54 (by decide) ?_
        exact rv_sub [4, 1, 0] rfl (ih v12 v13 h)
      · replace h := rIfT h c11
        refine rv_aload_n 2 dX4_parseWord_31 rfl ?_
        refine rv_dup dX4_parseWord_32 rfl ?_
        refine rv_getI ff_X4_26 dX4_parseWord_33 h (fun v14 h => ?_)
        refine rv_iload 0 dX4_parseWord_36 rfl ?_
        refine rv_iadd dX4_parseWord_38 ?_
        refine rv_putI ff_X4_26 (fp_X4_5 _) dX4_parseWord_39 h (fun w15 h => ?_)
        refine rv_iload_n 4 dX4_parseWord_42 rfl ?_
        exact rv_iret .int dX4_parseWord_43 rfl rfl (rRetIw h)
set_option maxRecDepth 20000 in
theorem E_X4_parseWord {x0 : Nat} {r0 : Int32} {w0 : rW} {w : rW} (h : J_X4_parseWord x0 w = some (r0, w0)) : (∃ fs, w[x0]? = some (cO 4 fs)) ∧ rMet mX4_parseWord 5 0 0 [.ref x0] w (rIs (some (.int r0)) w0) := by
  unfold J_X4_parseWord at h
  obtain ⟨hrc, h⟩ := rRc_some h
  refine ⟨hrc, ?_⟩
  refine rMet_of (by decide) rfl ?_
  refine rv_iconst (v := 0) dX4_parseWord_0 (by decide) ?_
  refine rv_istore_n (l2 := [(1, .int 0), (0, .ref x0)]) dX4_parseWord_1 rfl rfl ?_
  refine rv_iconst (v := 0) dX4_parseWord_2 (by decide) ?_
  refine rv_istore_n (l2 := [(2, .int 0), (1, .int 0), (0, .ref x0)]) dX4_parseWord_3 rfl rfl ?_
  obtain ⟨K57, eK57, h⟩ := rLetE h
  have hK57 : ∀ (y1 : Int32), K57 y1 = some (r0, w0) → rEv mX4_parseWord 5 0 0 57 [(0, .ref x0), (1, .int y1)] [] w (rIs (some (.int r0)) w0) := by
    intro x1_1 h
    rw [eK57] at h
    refine rv_aload_n 0 dX4_parseWord_57 rfl ?_
    refine rv_dup dX4_parseWord_58 rfl ?_
    refine rv_getI ff_X4_26 dX4_parseWord_59 h (fun v2 h => ?_)
    refine rv_iload_n 1 dX4_parseWord_62 rfl ?_
    refine rv_iadd dX4_parseWord_63 ?_
    refine rv_putI ff_X4_26 (fp_X4_5 _) dX4_parseWord_64 h (fun w3 h => ?_)
    refine rv_iconst (v := (-1)) dX4_parseWord_67 (by decide) ?_
    exact rv_iret .int dX4_parseWord_68 rfl rfl (rRetIw h)
  clear eK57
  exact rv_sub [2, 1, 0] rfl (E_X4_parseWord_4 x0 w hK57 2000 0 0 h)
set_option maxRecDepth 20000 in
theorem E_X4_numbersBehind {x0 : Int32} {r0 : Int32} {w : rW} (h : J_X4_numbersBehind x0 w = some r0) : rMet mX4_numbersBehind 0 0 0 [.int x0] w (rIs (some (.int r0)) w) := by
  unfold J_X4_numbersBehind at h
  refine rMet_of (by decide) rfl ?_
  refine rv_iload_n 0 dX4_numbersBehind_0 rfl ?_
  refine rIf h (fun c1 h => ?_) (fun c1 h => ?_)
  · refine rv_tswIn 32 dX4_numbersBehind_1 c1 (by decide) (by decide) rfl (by decide) ?_
    refine rv_iconst (v := 3) dX4_numbersBehind_32 (by decide) ?_
    exact rv_iret .int dX4_numbersBehind_33 rfl rfl (rRetIp h)
  refine rIf h (fun c2 h => ?_) (fun c2 h => ?_)
  · refine rv_tswIn 34 dX4_numbersBehind_1 c2 (by decide) (by decide) rfl (by decide) ?_
    refine rv_iconst (v := 2) dX4_numbersBehind_34 (by decide) ?_
    exact rv_iret .int dX4_numbersBehind_35 rfl rfl (rRetIp h)
  refine rIf h (fun c3 h => ?_) (fun c3 h => ?_)
  · refine rv_tswIn 34 dX4_numbersBehind_1 c3 (by decide) (by decide) rfl (by decide) ?_
    refine rv_iconst (v := 2) dX4_numbersBehind_34 (by decide) ?_
    exact rv_iret .int dX4_numbersBehind_35 rfl rfl (rRetIp h)
  refine rIf h (fun c4 h => ?_) (fun c4 h => ?_)
  · refine rv_tswIn 36 dX4_numbersBehind_1 c4 (by decide) (by decide) rfl (by decide) ?_
    refine rv_iconst (v := 1) dX4_numbersBehind_36 (by decide) ?_
    exact rv_iret .int dX4_numbersBehind_37 rfl rfl (rRetIp h)
  refine rv_tswOut 38 [0, 1, 2, 3] dX4_numbersBehind_1 (by decide) (by decide) (by decide) (fun v hv => ?_) ?_
  · simp only [List.mem_cons, List.not_mem_nil, or_false] at hv
    rcases hv with rfl | rfl | rfl | rfl
    · exact c1
    · exact c2
    · exact c3
    · exact c4
  refine rv_iconst (v := 0) dX4_numbersBehind_38 (by decide) ?_
  exact rv_iret .int dX4_numbersBehind_39 rfl rfl (rRetIp h)
set_option maxRecDepth 20000 in
theorem E_X4_parseNumber_12 {r0 : Bool} {w0 : rW}  (x0 : Nat) (x1 : Int32) (x2 : Int32)  {K92 : Int32 → Int32 → rW → Option (Bool × rW)} (hK92 : ∀ (y3 : Int32) (y4 : Int32) (w : rW), K92 y3 y4 w = some (r0, w0) → rEv mX4_parseNumber 1 0 0 92 [(0, .ref x0), (1, .int x1), (2, .int x2), (3, .int y3), (4, .int y4)] [] w (rIs (some (.int (bi r0))) w0)) : ∀ (f : Nat) (x3 : Int32) (x4 : Int32) (w : rW), J_X4_parseNumber_12 x0 K92 f x3 x4 w = some (r0, w0) → rEv mX4_parseNumber 1 0 0 12 [(0, .ref x0), (1, .int x1), (2, .int x2), (3, .int x3), (4, .int x4)] [] w (rIs (some (.int (bi r0))) w0) := by
  intro f
  induction f with
  | zero =>
    intro x3 x4 w h
    exact absurd (show (none : Option (Bool × rW)) = some (r0, w0) from h) (by simp)
  | succ f ih =>
    intro x3 x4 w h
    rw [J_X4_parseNumber_12] at h
    refine rv_iload 4 dX4_parseNumber_12 rfl ?_
    refine rv_bipush (v := 6) dX4_parseNumber_14 (by decide) ?_
    refine rv_icmp_ge 92 dX4_parseNumber_16 (by decide) (fun c15 => ?_) (fun c15 => ?_)
    · replace h := rIfT h c15
      exact rv_sub [0, 1, 2, 3, 4] rfl (hK92 x3 x4 w h)
    · replace h := rIfF h c15
      refine rv_aload_n 0 dX4_parseNumber_19 rfl ?_
      refine rv_getI ff_X4_26 dX4_parseNumber_20 h (fun v16 h => ?_)
      refine rv_aload_n 0 dX4_parseNumber_23 rfl ?_
      refine rv_getI ff_X4_13 dX4_parseNumber_24 h (fun v17 h => ?_)
      refine rv_icmp_ge 92 dX4_parseNumber_27 (by decide) (fun c18 => ?_) (fun c18 => ?_)
      · replace h := rIfT h c18
        exact rv_sub [0, 1, 2, 3, 4] rfl (hK92 x3 x4 w h)
      · replace h := rIfF h c18
        refine rv_aload_n 0 dX4_parseNumber_30 rfl ?_
        refine rv_getR ff_X4_9 dX4_parseNumber_31 h (fun a19 h => ?_)
        refine rv_aload_n 0 dX4_parseNumber_34 rfl ?_
        refine rv_getI ff_X4_26 dX4_parseNumber_35 h (fun v20 h => ?_)
        refine rv_iaload dX4_parseNumber_38 h (fun v21 h => ?_)
        refine rv_bipush (v := 48) dX4_parseNumber_39 (by decide) ?_
        refine rv_icmp_lt 92 dX4_parseNumber_41 (by decide) (fun c22 => ?_) (fun c22 => ?_)
        · replace h := rIfT h c22
          exact rv_sub [0, 1, 2, 3, 4] rfl (hK92 x3 x4 w h)
        · replace h := rIfF h c22
          refine rv_aload_n 0 dX4_parseNumber_44 rfl ?_
          refine rv_getR ff_X4_9 dX4_parseNumber_45 h (fun a23 h => ?_)
          refine rv_aload_n 0 dX4_parseNumber_48 rfl ?_
          refine rv_getI ff_X4_26 dX4_parseNumber_49 h (fun v24 h => ?_)
          refine rv_iaload dX4_parseNumber_52 h (fun v25 h => ?_)
          refine rv_bipush (v := 57) dX4_parseNumber_53 (by decide) ?_
          refine rv_icmp_gt 92 dX4_parseNumber_55 (by decide) (fun c26 => ?_) (fun c26 => ?_)
          · replace h := rIfT h c26
            exact rv_sub [0, 1, 2, 3, 4] rfl (hK92 x3 x4 w h)
          · replace h := rIfF h c26
            refine rv_bipush (v := 10) dX4_parseNumber_58 (by decide) ?_
            refine rv_iload_n 3 dX4_parseNumber_60 rfl ?_
            refine rv_imul dX4_parseNumber_61 ?_
            refine rv_aload_n 0 dX4_parseNumber_62 rfl ?_
            refine rv_getR ff_X4_9 dX4_parseNumber_63 h (fun a27 h => ?_)
            refine rv_aload_n 0 dX4_parseNumber_66 rfl ?_
            refine rv_getI ff_X4_26 dX4_parseNumber_67 h (fun v28 h => ?_)
            refine rv_iaload dX4_parseNumber_70 h (fun v29 h => ?_)
            refine rv_iadd dX4_parseNumber_71 ?_
            refine rv_bipush (v := 48) dX4_parseNumber_72 (by decide) ?_
            refine rv_isub dX4_parseNumber_74 ?_
            refine rv_letI h (fun v30 h => ?_)
            refine rv_istore_n (l2 := [(3, .int v30), (0, .ref x0), (1, .int x1), (2, .int x2), (4, .int x4)]) dX4_parseNumber_75 rfl rfl ?_
            refine rv_aload_n 1 dX4_parseNumber_76 rfl ?_
            refine rv_dup dX4_parseNumber_77 rfl ?_
            refine rv_getI ff_X4_26 dX4_parseNumber_78 h (fun v31 h => ?_)
            refine rv_iconst (v := 1) dX4_parseNumber_81 (by decide) ?_
            refine rv_iadd dX4_parseNumber_82 ?_
            refine rv_putI ff_X4_26 (fp_X4_5 _) dX4_parseNumber_83 h (fun w32 h => ?_)
            obtain ⟨v33, ev33, h⟩ := rLetE h
            refine rv_iinc (v := v33) (l2 := [(4, .int v33), (3, .int v30), (0, .ref x0), (1, .int x1), (2, .int x2)]) 4 dX4_parseNumber_86 rfl (by rw [ev33]; rfl) rfl rfl ?_
            clear ev33
            refine rv_goto 12 dX4_parseNumber_89 (by decide) ?_
            exact rv_sub [2, 3, 4, 1, 0] rfl (ih v30 v33 w32 h)
set_option maxRecDepth 20000 in
theorem E_X4_parseNumber {x0 : Nat} {x1 : Int32} {r0 : Bool} {w0 : rW} {w : rW} (h : J_X4_parseNumber x0 x1 w = some (r0, w0)) : (∃ fs, w[x0]? = some (cO 4 fs)) ∧ rMet mX4_parseNumber 1 0 0 [.ref x0, .int x1] w (rIs (some (.int (bi r0))) w0) := by
  unfold J_X4_parseNumber at h
  obtain ⟨hrc, h⟩ := rRc_some h
  refine ⟨hrc, ?_⟩
  refine rMet_of (by decide) rfl ?_
  refine rv_aload_n 0 dX4_parseNumber_0 rfl ?_
  refine rv_bipush (v := 45) dX4_parseNumber_1 (by decide) ?_
  obtain ⟨b2, w3, h1, h⟩ := rB2_some h
  refine rv_callVr (k3 := 0) (n3 := 0) (st2 := []) caX4_passSign cvX4_passSign ml_X4_29 dX4_parseNumber_3 rfl (E_X4_passSign h1).2 (E_X4_passSign h1).1 rfl rfl rfl rfl rfl ?_
  clear h1
  refine rv_letI h (fun v4 h => ?_)
  refine rv_istore_n (l2 := [(2, .int v4), (0, .ref x0), (1, .int x1)]) dX4_parseNumber_6 rfl rfl ?_
  refine rv_iconst (v := 0) dX4_parseNumber_7 (by decide) ?_
  refine rv_istore_n (l2 := [(3, .int 0), (2, .int v4), (0, .ref x0), (1, .int x1)]) dX4_parseNumber_8 rfl rfl ?_
  refine rv_iconst (v := 0) dX4_parseNumber_9 (by decide) ?_
  refine rv_istore (l2 := [(4, .int 0), (3, .int 0), (2, .int v4), (0, .ref x0), (1, .int x1)]) dX4_parseNumber_10 rfl rfl ?_
  obtain ⟨K92, eK92, h⟩ := rLetE h
  have hK92 : ∀ (y3 : Int32) (y4 : Int32) (w : rW), K92 y3 y4 w = some (r0, w0) → rEv mX4_parseNumber 1 0 0 92 [(0, .ref x0), (1, .int x1), (2, .int v4), (3, .int y3), (4, .int y4)] [] w (rIs (some (.int (bi r0))) w0) := by
    intro x3_5 x4_6 w7 h
    rw [eK92] at h
    refine rv_aload_n 0 dX4_parseNumber_92 rfl ?_
    refine rv_getR ff_X4_20 dX4_parseNumber_93 h (fun a8 h => ?_)
    refine rv_iload_n 1 dX4_parseNumber_96 rfl ?_
    refine rv_iload_n 2 dX4_parseNumber_97 rfl ?_
    obtain ⟨K107, eK107, h⟩ := rLetE h
    have hK107 : ∀ (z0 : Nat) (z1 : Int32) (z2 : Int32), K107 z0 z1 z2 = some (r0, w0) → rEv mX4_parseNumber 1 0 0 107 [(4, .int x4_6)] [.int z2, .int z1, .ref z0] w7 (rIs (some (.int (bi r0))) w0) := by
      intro z9 z10 z11 h
      rw [eK107] at h
      refine rv_iastore dX4_parseNumber_107 h (fun w12 h => ?_)
      refine rv_iload 0 dX4_parseNumber_108 rfl ?_
      refine rv_if_le 117 dX4_parseNumber_110 (by decide) (fun c13 => ?_) (fun c13 => ?_)
      · replace h := rIfT h c13
        refine rv_iconst (v := 0) dX4_parseNumber_117 (by decide) ?_
        exact rv_iret .boolean dX4_parseNumber_118 rfl (by decide) (rRetZw (x := 0) h rfl)
      · replace h := rIfF h c13
        refine rv_iconst (v := 1) dX4_parseNumber_113 (by decide) ?_
        refine rv_goto 118 dX4_parseNumber_114 (by decide) ?_
        exact rv_iret .boolean dX4_parseNumber_118 rfl (by decide) (rRetZw (x := 1) h rfl)
    clear eK107
    refine rv_if_eq 106 dX4_parseNumber_98 (by decide) (fun c14 => ?_) (fun c14 => ?_)
    · replace h := rIfT h c14
      refine rv_iload_n 3 dX4_parseNumber_106 rfl ?_
      exact rv_sub [4] rfl (hK107 a8 x1 x3_5 h)
    · replace h := rIfF h c14
      refine rv_iload_n 3 dX4_parseNumber_101 rfl ?_
      refine rv_ineg dX4_parseNumber_102 ?_
      refine rv_goto 107 dX4_parseNumber_103 (by decide) ?_
      exact rv_sub [4] rfl (hK107 a8 x1 (-x3_5) h)
  clear eK92
  exact rv_sub [3, 4, 2, 1, 0] rfl (E_X4_parseNumber_12 x0 x1 v4 hK92 2000 0 0 w3 h)
set_option maxRecDepth 20000 in
theorem E_X4_parseClause_20 {r0 : Bool} {w0 : rW}  (x0 : Nat) (x1 : Int32) (x2 : Int32)   : ∀ (f : Nat) (x3 : Int32) (w : rW), J_X4_parseClause_20 x0 x1 x2 f x3 w = some (r0, w0) → rEv mX4_parseClause 6 0 0 20 [(0, .ref x0), (1, .int x1), (2, .int x2), (3, .int x3)] [] w (rIs (some (.int (bi r0))) w0) := by
  intro f
  induction f with
  | zero =>
    intro x3 w h
    exact absurd (show (none : Option (Bool × rW)) = some (r0, w0) from h) (by simp)
  | succ f ih =>
    intro x3 w h
    rw [J_X4_parseClause_20] at h
    refine rv_iload_n 3 dX4_parseClause_20 rfl ?_
    refine rv_iload_n 2 dX4_parseClause_21 rfl ?_
    obtain ⟨v8, h7, h⟩ := rBind h
    refine rv_callSr (k3 := 0) (n3 := 0) (st2 := [.int x3]) (As := [.int x2]) caX4_numbersBehind csX4_numbersBehind ml_X4_40 dX4_parseClause_22 rfl (E_X4_numbersBehind h7) rfl rfl rfl rfl rfl ?_
    clear h7
    refine rv_icmp_ge 57 dX4_parseClause_25 (by decide) (fun c9 => ?_) (fun c9 => ?_)
    · replace h := rIfT h c9
      refine rv_iconst (v := 1) dX4_parseClause_57 (by decide) ?_
      exact rv_iret .boolean dX4_parseClause_58 rfl (by decide) (rRetZw (x := 1) h rfl)
    · replace h := rIfF h c9
      refine rv_aload_n 0 dX4_parseClause_28 rfl ?_
      refine rv_bipush (v := 32) dX4_parseClause_29 (by decide) ?_
      obtain ⟨b11, w12, h10, h⟩ := rB2_some h
      refine rv_callVr (k3 := 0) (n3 := 0) (st2 := []) caX4_passSign cvX4_passSign ml_X4_29 dX4_parseClause_31 rfl (E_X4_passSign h10).2 (E_X4_passSign h10).1 rfl rfl rfl rfl rfl ?_
      clear h10
      refine rv_if_eq 49 dX4_parseClause_34 (by decide) (fun c13 => ?_) (fun c13 => ?_)
      · replace h := rIfT h c13
        refine rv_iconst (v := 0) dX4_parseClause_49 (by decide) ?_
        exact rv_iret .boolean dX4_parseClause_50 rfl (by decide) (rRetZw (x := 0) h rfl)
      · replace h := rIfF h c13
        refine rv_aload_n 0 dX4_parseClause_37 rfl ?_
        refine rv_iload_n 1 dX4_parseClause_38 rfl ?_
        refine rv_iconst (v := 3) dX4_parseClause_39 (by decide) ?_
        refine rv_imul dX4_parseClause_40 ?_
        refine rv_iload_n 3 dX4_parseClause_41 rfl ?_
        refine rv_iadd dX4_parseClause_42 ?_
        obtain ⟨b15, w16, h14, h⟩ := rB2_some h
        refine rv_callVr (k3 := 0) (n3 := 0) (st2 := []) caX4_parseNumber cvX4_parseNumber ml_X4_44 dX4_parseClause_43 rfl (E_X4_parseNumber h14).2 (E_X4_parseNumber h14).1 rfl rfl rfl rfl rfl ?_
        clear h14
        refine rv_if_ne 51 dX4_parseClause_46 (by decide) (fun c17 => ?_) (fun c17 => ?_)
        · replace h := rIfF h c17
          obtain ⟨v18, ev18, h⟩ := rLetE h
          refine rv_iinc (v := v18) (l2 := [(3, .int v18), (0, .ref x0), (1, .int x1), (2, .int x2)]) 3 dX4_parseClause_51 rfl (by rw [ev18]; rfl) rfl rfl ?_
          clear ev18
          refine rv_goto 20 dX4_parseClause_54 (by decide) ?_
          exact rv_sub [1, 2, 3, 0] rfl (ih v18 w16 h)
        · replace h := rIfT h c17
          refine rv_iconst (v := 0) dX4_parseClause_49 (by decide) ?_
          exact rv_iret .boolean dX4_parseClause_50 rfl (by decide) (rRetZw (x := 0) h rfl)
set_option maxRecDepth 20000 in
theorem E_X4_parseClause {x0 : Nat} {x1 : Int32} {r0 : Bool} {w0 : rW} {w : rW} (h : J_X4_parseClause x0 x1 w = some (r0, w0)) : (∃ fs, w[x0]? = some (cO 4 fs)) ∧ rMet mX4_parseClause 6 0 0 [.ref x0, .int x1] w (rIs (some (.int (bi r0))) w0) := by
  unfold J_X4_parseClause at h
  obtain ⟨hrc, h⟩ := rRc_some h
  refine ⟨hrc, ?_⟩
  refine rMet_of (by decide) rfl ?_
  refine rv_aload_n 0 dX4_parseClause_0 rfl ?_
  obtain ⟨v2, w3, h1, h⟩ := rB2_some h
  refine rv_callVr (k3 := 0) (n3 := 0) (st2 := []) caX4_parseWord cvX4_parseWord ml_X4_36 dX4_parseClause_1 rfl (E_X4_parseWord h1).2 (E_X4_parseWord h1).1 rfl rfl rfl rfl rfl ?_
  clear h1
  refine rv_istore_n (l2 := [(2, .int v2), (0, .ref x0), (1, .int x1)]) dX4_parseClause_4 rfl rfl ?_
  refine rv_iload_n 0 dX4_parseClause_5 rfl ?_
  refine rv_if_ge 11 dX4_parseClause_6 (by decide) (fun c4 => ?_) (fun c4 => ?_)
  · replace h := rIfT h c4
    refine rv_aload_n 1 dX4_parseClause_11 rfl ?_
    refine rv_getR ff_X4_17 dX4_parseClause_12 h (fun a5 h => ?_)
    refine rv_iload_n 2 dX4_parseClause_15 rfl ?_
    refine rv_iload_n 0 dX4_parseClause_16 rfl ?_
    refine rv_iastore dX4_parseClause_17 h (fun w6 h => ?_)
    refine rv_iconst (v := 0) dX4_parseClause_18 (by decide) ?_
    refine rv_istore_n (l2 := [(3, .int 0), (2, .int v2), (0, .ref x0), (1, .int x1)]) dX4_parseClause_19 rfl rfl ?_
    exact rv_sub [2, 3, 1, 0] rfl (E_X4_parseClause_20 x0 x1 v2 2000 0 w6 h)
  · replace h := rIfF h c4
    refine rv_iconst (v := 0) dX4_parseClause_9 (by decide) ?_
    exact rv_iret .boolean dX4_parseClause_10 rfl (by decide) (rRetZw (x := 0) h rfl)
set_option maxRecDepth 20000 in
theorem E_X4_parse_12 {r0 : Int32} {w0 : rW}  (x0 : Nat)   : ∀ (f : Nat) (x1 : Int32) (w : rW), J_X4_parse_12 x0 f x1 w = some (r0, w0) → rEv mX4_parse 7 0 0 12 [(0, .ref x0), (1, .int x1)] [] w (rIs (some (.int r0)) w0) := by
  intro f
  induction f with
  | zero =>
    intro x1 w h
    exact absurd (show (none : Option (Int32 × rW)) = some (r0, w0) from h) (by simp)
  | succ f ih =>
    intro x1 w h
    rw [J_X4_parse_12] at h
    refine rv_iload_n 1 dX4_parse_12 rfl ?_
    refine rv_bipush (v := 12) dX4_parse_13 (by decide) ?_
    refine rv_icmp_ge 70 dX4_parse_15 (by decide) (fun c3 => ?_) (fun c3 => ?_)
    · replace h := rIfT h c3
      refine rv_aload_n 0 dX4_parse_70 rfl ?_
      refine rv_getI ff_X4_26 dX4_parse_71 h (fun v4 h => ?_)
      exact rv_iret .int dX4_parse_74 rfl rfl (rRetIw h)
    · replace h := rIfF h c3
      refine rv_iload_n 1 dX4_parse_18 rfl ?_
      obtain ⟨K31, eK31, h⟩ := rLetE h
      have hK31 : ∀ (w : rW), K31 w = some (r0, w0) → rEv mX4_parse 7 0 0 31 [(0, .ref x0), (1, .int x1)] [] w (rIs (some (.int r0)) w0) := by
        intro w5 h
        rw [eK31] at h
        refine rv_aload_n 0 dX4_parse_31 rfl ?_
        refine rv_iload_n 1 dX4_parse_32 rfl ?_
        obtain ⟨b7, w8, h6, h⟩ := rB2_some h
        refine rv_callVr (k3 := 0) (n3 := 0) (st2 := []) caX4_parseClause cvX4_parseClause ml_X4_33 dX4_parse_33 rfl (E_X4_parseClause h6).2 (E_X4_parseClause h6).1 rfl rfl rfl rfl rfl ?_
        clear h6
        refine rv_if_ne 44 dX4_parse_36 (by decide) (fun c9 => ?_) (fun c9 => ?_)
        · replace h := rIfF h c9
          refine rv_aload_n 0 dX4_parse_44 rfl ?_
          refine rv_getI ff_X4_26 dX4_parse_45 h (fun v10 h => ?_)
          refine rv_aload_n 0 dX4_parse_48 rfl ?_
          refine rv_getI ff_X4_13 dX4_parse_49 h (fun v11 h => ?_)
          refine rv_icmp_ne 64 dX4_parse_52 (by decide) (fun c12 => ?_) (fun c12 => ?_)
          · replace h := rIfF h c12
            obtain ⟨v13, ev13, h⟩ := rLetE h
            refine rv_iinc (v := v13) (l2 := [(1, .int v13), (0, .ref x0)]) 1 dX4_parse_64 rfl (by rw [ev13]; rfl) rfl rfl ?_
            clear ev13
            refine rv_goto 12 dX4_parse_67 (by decide) ?_
            exact rv_sub [1, 0] rfl (ih v13 w8 h)
          · replace h := rIfT h c12
            refine rv_aload_n 0 dX4_parse_55 rfl ?_
            refine rv_iload_n 1 dX4_parse_56 rfl ?_
            refine rv_iconst (v := 1) dX4_parse_57 (by decide) ?_
            refine rv_iadd dX4_parse_58 ?_
            refine rv_putI ff_X4_23 (fp_X4_4 _) dX4_parse_59 h (fun w14 h => ?_)
            refine rv_iconst (v := (-1)) dX4_parse_62 (by decide) ?_
            exact rv_iret .int dX4_parse_63 rfl rfl (rRetIw h)
        · replace h := rIfT h c9
          refine rv_aload_n 0 dX4_parse_39 rfl ?_
          refine rv_getI ff_X4_26 dX4_parse_40 h (fun v15 h => ?_)
          exact rv_iret .int dX4_parse_43 rfl rfl (rRetIw h)
      clear eK31
      refine rv_if_le 31 dX4_parse_19 (by decide) (fun c16 => ?_) (fun c16 => ?_)
      · replace h := rIfT h c16
        exact rv_sub [0, 1] rfl (hK31 w h)
      · replace h := rIfF h c16
        refine rv_aload_n 0 dX4_parse_22 rfl ?_
        refine rv_bipush (v := 59) dX4_parse_23 (by decide) ?_
        obtain ⟨b18, w19, h17, h⟩ := rB2_some h
        refine rv_callVr (k3 := 0) (n3 := 0) (st2 := []) caX4_passSign cvX4_passSign ml_X4_29 dX4_parse_25 rfl (E_X4_passSign h17).2 (E_X4_passSign h17).1 rfl rfl rfl rfl rfl ?_
        clear h17
        refine rv_if_eq 39 dX4_parse_28 (by decide) (fun c20 => ?_) (fun c20 => ?_)
        · replace h := rIfT h c20
          refine rv_aload_n 0 dX4_parse_39 rfl ?_
          refine rv_getI ff_X4_26 dX4_parse_40 h (fun v21 h => ?_)
          exact rv_iret .int dX4_parse_43 rfl rfl (rRetIw h)
        · replace h := rIfF h c20
          exact rv_sub [0, 1] rfl (hK31 w19 h)
set_option maxRecDepth 20000 in
theorem E_X4_parse {x0 : Nat} {r0 : Int32} {w0 : rW} {w : rW} (h : J_X4_parse x0 w = some (r0, w0)) : (∃ fs, w[x0]? = some (cO 4 fs)) ∧ rMet mX4_parse 7 0 0 [.ref x0] w (rIs (some (.int r0)) w0) := by
  unfold J_X4_parse at h
  obtain ⟨hrc, h⟩ := rRc_some h
  refine ⟨hrc, ?_⟩
  refine rMet_of (by decide) rfl ?_
  refine rv_aload_n 0 dX4_parse_0 rfl ?_
  refine rv_iconst (v := 0) dX4_parse_1 (by decide) ?_
  refine rv_putI ff_X4_26 (fp_X4_5 _) dX4_parse_2 h (fun w1 h => ?_)
  refine rv_aload_n 0 dX4_parse_5 rfl ?_
  refine rv_iconst (v := 0) dX4_parse_6 (by decide) ?_
  refine rv_putI ff_X4_23 (fp_X4_4 _) dX4_parse_7 h (fun w2 h => ?_)
  refine rv_iconst (v := 0) dX4_parse_10 (by decide) ?_
  refine rv_istore_n (l2 := [(1, .int 0), (0, .ref x0)]) dX4_parse_11 rfl rfl ?_
  exact rv_sub [1, 0] rfl (E_X4_parse_12 x0 2000 0 w2 h)
set_option maxRecDepth 20000 in
theorem E_X5_init {x0 : Nat} {x1 : Nat} {w0 : rW} {w : rW} (h : J_X5_init x0 x1 w = some w0) : rMet mX5_init 1 1 56 [.ref x0, .ref x1] w (rIs none w0) := by
  unfold J_X5_init at h
  refine rMet_of (by decide) rfl ?_
  refine rv_aload_n 0 dX5_init_0 rfl ?_
  refine rv_objInit ml_X5_3 im_java_lang_Object__init_ co_object dX5_init_1 rfl rfl ?_
  refine rv_aload_n 0 dX5_init_4 rfl ?_
  refine rv_bipush (v := 56) dX5_init_5 (by decide) ?_
  refine rv_newIB (b := 56) (by decide) dX5_init_7 h (fun a1 w2 h => ?_)
  refine rv_putFA ff_X5_9 fp_X5_1 dX5_init_9 rfl h (fun w3 h => ?_)
  refine rv_aload_n 0 dX5_init_12 rfl ?_
  refine rv_lconst (v := 0) dX5_init_13 (by decide) ?_
  refine rv_putJ ff_X5_15 (fp_X5_2 _) dX5_init_14 h (fun w4 h => ?_)
  refine rv_aload_n 0 dX5_init_17 rfl ?_
  refine rv_lconst (v := 0) dX5_init_18 (by decide) ?_
  refine rv_putJ ff_X5_19 (fp_X5_3 _) dX5_init_19 h (fun w5 h => ?_)
  refine rv_aload_n 0 dX5_init_22 rfl ?_
  refine rv_aload_n 1 dX5_init_23 rfl ?_
  refine rv_putFO ff_X5_22 fp_X5_0 dX5_init_24 rfl h (fun w6 h => ?_)
  exact rv_vret dX5_init_27 rfl (rRetV h)
set_option maxRecDepth 20000 in
theorem E_X5_clearCounts_2 {w0 : rW}  (x0 : Nat)   : ∀ (f : Nat) (x1 : Int32) (w : rW), J_X5_clearCounts_2 x0 f x1 w = some w0 → rEv mX5_clearCounts 0 0 0 2 [(0, .ref x0), (1, .int x1)] [] w (rIs none w0) := by
  intro f
  induction f with
  | zero =>
    intro x1 w h
    exact absurd (show (none : Option rW) = some w0 from h) (by simp)
  | succ f ih =>
    intro x1 w h
    rw [J_X5_clearCounts_2] at h
    refine rv_iload_n 1 dX5_clearCounts_2 rfl ?_
    refine rv_bipush (v := 56) dX5_clearCounts_3 (by decide) ?_
    refine rv_icmp_ge 21 dX5_clearCounts_5 (by decide) (fun c1 => ?_) (fun c1 => ?_)
    · replace h := rIfT h c1
      exact rv_vret dX5_clearCounts_21 rfl (rRetV h)
    · replace h := rIfF h c1
      refine rv_aload_n 0 dX5_clearCounts_8 rfl ?_
      refine rv_getR ff_X5_9 dX5_clearCounts_9 h (fun a2 h => ?_)
      refine rv_iload_n 1 dX5_clearCounts_12 rfl ?_
      refine rv_iconst (v := 0) dX5_clearCounts_13 (by decide) ?_
      refine rv_iastore dX5_clearCounts_14 h (fun w3 h => ?_)
      obtain ⟨v4, ev4, h⟩ := rLetE h
      refine rv_iinc (v := v4) (l2 := [(1, .int v4), (0, .ref x0)]) 1 dX5_clearCounts_15 rfl (by rw [ev4]; rfl) rfl rfl ?_
      clear ev4
      refine rv_goto 2 dX5_clearCounts_18 (by decide) ?_
      exact rv_sub [1, 0] rfl (ih v4 w3 h)
set_option maxRecDepth 20000 in
theorem E_X5_clearCounts {x0 : Nat} {w0 : rW} {w : rW} (h : J_X5_clearCounts x0 w = some w0) : (∃ fs, w[x0]? = some (cO 5 fs)) ∧ rMet mX5_clearCounts 0 0 0 [.ref x0] w (rIs none w0) := by
  unfold J_X5_clearCounts at h
  obtain ⟨hrc, h⟩ := rRc_some h
  refine ⟨hrc, ?_⟩
  refine rMet_of (by decide) rfl ?_
  refine rv_iconst (v := 0) dX5_clearCounts_0 (by decide) ?_
  refine rv_istore_n (l2 := [(1, .int 0), (0, .ref x0)]) dX5_clearCounts_1 rfl rfl ?_
  exact rv_sub [1, 0] rfl (E_X5_clearCounts_2 x0 2000 0 w h)

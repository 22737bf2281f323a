set_option maxRecDepth 20000 in
theorem E_X5_factorLength {x0 : Int32} {r0 : Int32} {w : rW} (h : J_X5_factorLength x0 w = some r0) : rMet mX5_factorLength 1 0 0 [.int x0] w (rIs (some (.int r0)) w) := by
  unfold J_X5_factorLength at h
  refine rMet_of (by decide) rfl ?_
  refine rv_iload_n 0 dX5_factorLength_0 rfl ?_
  refine rv_mabs ml_X5_126 sm_J9_abs_0f7a4 in_J9 co_J9_abs_0f7a4 dX5_factorLength_1 rfl rfl ?_
  refine rv_letI h (fun v1 h => ?_)
  refine rv_istore_n (l2 := [(1, .int v1), (0, .int x0)]) dX5_factorLength_4 rfl rfl ?_
  refine rv_iload_n 0 dX5_factorLength_5 rfl ?_
  refine rv_iconst (v := 1) dX5_factorLength_6 (by decide) ?_
  refine rv_icmp_ne 12 dX5_factorLength_7 (by decide) (fun c2 => ?_) (fun c2 => ?_)
  · replace h := rIfF h c2
    refine rv_iload_n 0 dX5_factorLength_12 rfl ?_
    refine rv_bipush (v := 10) dX5_factorLength_13 (by decide) ?_
    refine rv_icmp_ge 22 dX5_factorLength_15 (by decide) (fun c3 => ?_) (fun c3 => ?_)
    · replace h := rIfT h c3
      refine rv_iconst (v := 3) dX5_factorLength_22 (by decide) ?_
      exact rv_iret .int dX5_factorLength_23 rfl rfl (rRetIp h)
    · replace h := rIfF h c3
      refine rv_iconst (v := 2) dX5_factorLength_18 (by decide) ?_
      refine rv_goto 23 dX5_factorLength_19 (by decide) ?_
      exact rv_iret .int dX5_factorLength_23 rfl rfl (rRetIp h)
  · replace h := rIfT h c2
    refine rv_iconst (v := 0) dX5_factorLength_10 (by decide) ?_
    exact rv_iret .int dX5_factorLength_11 rfl rfl (rRetIp h)
set_option maxRecDepth 20000 in
theorem E_X5_pointOf_4 {r0 : Int32}  (x0 : Int32) (w : rW)   : ∀ (f : Nat) (x2 : Int32) (x3 : Int32), J_X5_pointOf_4 x0 f x2 x3 = some r0 → rEv mX5_pointOf 0 0 0 4 [(0, .int x0), (2, .int x2), (3, .int x3)] [] w (rIs (some (.int r0)) w) := by
  intro f
  induction f with
  | zero =>
    intro x2 x3 h
    exact absurd (show (none : Option Int32) = some r0 from h) (by simp)
  | succ f ih =>
    intro x2 x3 h
    rw [J_X5_pointOf_4] at h
    refine rv_iload_n 2 dX5_pointOf_4 rfl ?_
    refine rv_bipush (v := 8) dX5_pointOf_5 (by decide) ?_
    refine rv_icmp_ge 33 dX5_pointOf_7 (by decide) (fun c1 => ?_) (fun c1 => ?_)
    · replace h := rIfT h c1
      refine rv_iconst (v := 0) dX5_pointOf_33 (by decide) ?_
      exact rv_iret .int dX5_pointOf_34 rfl rfl (rRetIp h)
    · replace h := rIfF h c1
      refine rv_iload_n 0 dX5_pointOf_10 rfl ?_
      refine rv_iload_n 2 dX5_pointOf_11 rfl ?_
      refine rv_ishr dX5_pointOf_12 ?_
      refine rv_iconst (v := 1) dX5_pointOf_13 (by decide) ?_
      refine rv_iand dX5_pointOf_14 ?_
      obtain ⟨K27, eK27, h⟩ := rLetE h
      have hK27 : ∀ (y2 : Int32), K27 y2 = some r0 → rEv mX5_pointOf 0 0 0 27 [(0, .int x0), (2, .int y2), (3, .int x3)] [] w (rIs (some (.int r0)) w) := by
        intro x2_2 h
        rw [eK27] at h
        obtain ⟨v3, ev3, h⟩ := rLetE h
        refine rv_iinc (v := v3) (l2 := [(3, .int v3), (0, .int x0), (2, .int x2_2)]) 2 dX5_pointOf_27 rfl (by rw [ev3]; rfl) rfl rfl ?_
        clear ev3
        refine rv_goto 4 dX5_pointOf_30 (by decide) ?_
        exact rv_sub [1, 2, 0] rfl (ih x2_2 v3 h)
      clear eK27
      refine rv_if_eq 27 dX5_pointOf_15 (by decide) (fun c4 => ?_) (fun c4 => ?_)
      · replace h := rIfT h c4
        exact rv_sub [0, 1, 2] rfl (hK27 x2 h)
      · replace h := rIfF h c4
        refine rv_iload_n 1 dX5_pointOf_18 rfl ?_
        refine rv_if_ne 24 dX5_pointOf_19 (by decide) (fun c5 => ?_) (fun c5 => ?_)
        · replace h := rIfF h c5
          obtain ⟨v6, ev6, h⟩ := rLetE h
          refine rv_iinc (v := v6) (l2 := [(2, .int v6), (0, .int x0), (3, .int x3)]) 1 dX5_pointOf_24 rfl (by rw [ev6]; rfl) rfl rfl ?_
          clear ev6
          exact rv_sub [1, 0, 2] rfl (hK27 v6 h)
        · replace h := rIfT h c5
          refine rv_iload_n 2 dX5_pointOf_22 rfl ?_
          exact rv_iret .int dX5_pointOf_23 rfl rfl (rRetIp h)
set_option maxRecDepth 20000 in
theorem E_X5_pointOf {x0 : Int32} {x1 : Int32} {r0 : Int32} {w : rW} (h : J_X5_pointOf x0 x1 w = some r0) : rMet mX5_pointOf 0 0 0 [.int x0, .int x1] w (rIs (some (.int r0)) w) := by
  unfold J_X5_pointOf at h
  refine rMet_of (by decide) rfl ?_
  refine rv_iload_n 1 dX5_pointOf_0 rfl ?_
  refine rv_istore_n (l2 := [(2, .int x1), (0, .int x0), (1, .int x1)]) dX5_pointOf_1 rfl rfl ?_
  refine rv_iconst (v := 0) dX5_pointOf_2 (by decide) ?_
  refine rv_istore_n (l2 := [(3, .int 0), (2, .int x1), (0, .int x0), (1, .int x1)]) dX5_pointOf_3 rfl rfl ?_
  exact rv_sub [2, 1, 0] rfl (E_X5_pointOf_4 x0 w 2000 x1 0 h)
set_option maxRecDepth 20000 in
theorem E_X5_signOfTerm {x0 : Nat} {x1 : Int32} {x2 : Int32} {r0 : Int32} {w : rW} (h : J_X5_signOfTerm x0 x1 x2 w = some r0) : (∃ fs, w[x0]? = some (cO 5 fs)) ∧ rMet mX5_signOfTerm 2 0 0 [.ref x0, .int x1, .int x2] w (rIs (some (.int r0)) w) := by
  unfold J_X5_signOfTerm at h
  obtain ⟨hrc, h⟩ := rRc_some h
  refine ⟨hrc, ?_⟩
  refine rMet_of (by decide) rfl ?_
  refine rv_aload_n 0 dX5_signOfTerm_0 rfl ?_
  refine rv_getR ff_X5_9 dX5_signOfTerm_1 h (fun a1 h => ?_)
  refine rv_iload_n 1 dX5_signOfTerm_4 rfl ?_
  refine rv_iaload dX5_signOfTerm_5 h (fun v2 h => ?_)
  refine rv_istore_n (l2 := [(3, .int v2), (0, .ref x0), (1, .int x1), (2, .int x2)]) dX5_signOfTerm_6 rfl rfl ?_
  refine rv_iload_n 3 dX5_signOfTerm_7 rfl ?_
  refine rv_if_ne 23 dX5_signOfTerm_8 (by decide) (fun c3 => ?_) (fun c3 => ?_)
  · replace h := rIfF h c3
    refine rv_iload_n 0 dX5_signOfTerm_23 rfl ?_
    obtain ⟨v5, h4, h⟩ := rBind h
    refine rv_callSr (k3 := 0) (n3 := 0) (st2 := []) (As := [.int v2]) caX5_factorLength csX5_factorLength ml_X5_114 dX5_signOfTerm_24 rfl (E_X5_factorLength h4) rfl rfl rfl rfl rfl ?_
    clear h4
    refine rv_istore (l2 := [(4, .int v5), (3, .int v2), (0, .ref x0), (1, .int x1), (2, .int x2)]) dX5_signOfTerm_27 rfl rfl ?_
    refine rv_iload_n 4 dX5_signOfTerm_29 rfl ?_
    refine rv_iload 0 dX5_signOfTerm_30 rfl ?_
    refine rv_icmp_le 57 dX5_signOfTerm_32 (by decide) (fun c6 => ?_) (fun c6 => ?_)
    · replace h := rIfT h c6
      refine rv_iload_n 4 dX5_signOfTerm_57 rfl ?_
      refine rv_iload 0 dX5_signOfTerm_58 rfl ?_
      refine rv_icmp_ne 66 dX5_signOfTerm_60 (by decide) (fun c7 => ?_) (fun c7 => ?_)
      · replace h := rIfF h c7
        refine rv_iload_n 1 dX5_signOfTerm_66 rfl ?_
        refine rv_mabs ml_X5_126 sm_J9_abs_0f7a4 in_J9 co_J9_abs_0f7a4 dX5_signOfTerm_67 rfl rfl ?_
        refine rv_letI h (fun v8 h => ?_)
        refine rv_istore (l2 := [(5, .int v8), (4, .int v5), (3, .int v2), (0, .ref x0), (1, .int x1), (2, .int x2)]) dX5_signOfTerm_70 rfl rfl ?_
        refine rv_bipush (v := 48) dX5_signOfTerm_72 (by decide) ?_
        refine rv_iload_n 5 dX5_signOfTerm_74 rfl ?_
        refine rv_iload 1 dX5_signOfTerm_75 rfl ?_
        refine rv_iconst (v := 1) dX5_signOfTerm_77 (by decide) ?_
        refine rv_isub dX5_signOfTerm_78 ?_
        refine rv_icmp_ne 90 dX5_signOfTerm_79 (by decide) (fun c9 => ?_) (fun c9 => ?_)
        · replace h := rIfF h c9
          refine rv_iload 0 dX5_signOfTerm_90 rfl ?_
          refine rv_bipush (v := 10) dX5_signOfTerm_92 (by decide) ?_
          refine rv_idivB dX5_signOfTerm_94 h (fun v10 h => ?_)
          refine rv_iadd dX5_signOfTerm_95 ?_
          exact rv_iret .int dX5_signOfTerm_96 rfl rfl (rRetIp h)
        · replace h := rIfT h c9
          refine rv_iload 0 dX5_signOfTerm_82 rfl ?_
          refine rv_bipush (v := 10) dX5_signOfTerm_84 (by decide) ?_
          refine rv_iremB dX5_signOfTerm_86 h (fun v11 h => ?_)
          refine rv_goto 95 dX5_signOfTerm_87 (by decide) ?_
          refine rv_iadd dX5_signOfTerm_95 ?_
          exact rv_iret .int dX5_signOfTerm_96 rfl rfl (rRetIp h)
      · replace h := rIfT h c7
        refine rv_bipush (v := 42) dX5_signOfTerm_63 (by decide) ?_
        exact rv_iret .int dX5_signOfTerm_65 rfl rfl (rRetIp h)
    · replace h := rIfF h c6
      refine rv_bipush (v := 48) dX5_signOfTerm_35 (by decide) ?_
      refine rv_aload_n 2 dX5_signOfTerm_37 rfl ?_
      refine rv_getR ff_X5_22 dX5_signOfTerm_38 h (fun a12 h => ?_)
      refine rv_getR ff_X5_66 dX5_signOfTerm_41 h (fun a13 h => ?_)
      refine rv_iload_n 3 dX5_signOfTerm_44 rfl ?_
      refine rv_iaload dX5_signOfTerm_45 h (fun v14 h => ?_)
      refine rv_iload_n 4 dX5_signOfTerm_46 rfl ?_
      refine rv_iload 0 dX5_signOfTerm_47 rfl ?_
      refine rv_isub dX5_signOfTerm_49 ?_
      refine rv_iconst (v := 1) dX5_signOfTerm_50 (by decide) ?_
      refine rv_isub dX5_signOfTerm_51 ?_
      obtain ⟨v16, h15, h⟩ := rBind h
      refine rv_callSr (k3 := 0) (n3 := 0) (st2 := [.int 48]) (As := [.int v14, .int ((x2 - v5) - 1)]) caX5_pointOf csX5_pointOf ml_X5_123 dX5_signOfTerm_52 rfl (E_X5_pointOf h15) rfl rfl rfl rfl rfl ?_
      clear h15
      refine rv_iadd dX5_signOfTerm_55 ?_
      exact rv_iret .int dX5_signOfTerm_56 rfl rfl (rRetIp h)
  · replace h := rIfT h c3
    refine rv_iload_n 0 dX5_signOfTerm_11 rfl ?_
    refine rv_if_ge 20 dX5_signOfTerm_12 (by decide) (fun c17 => ?_) (fun c17 => ?_)
    · replace h := rIfT h c17
      refine rv_bipush (v := 43) dX5_signOfTerm_20 (by decide) ?_
      exact rv_iret .int dX5_signOfTerm_22 rfl rfl (rRetIp h)
    · replace h := rIfF h c17
      refine rv_bipush (v := 45) dX5_signOfTerm_15 (by decide) ?_
      refine rv_goto 22 dX5_signOfTerm_17 (by decide) ?_
      exact rv_iret .int dX5_signOfTerm_22 rfl rfl (rRetIp h)
set_option maxRecDepth 20000 in
theorem E_X5_signWritten_4 {r0 : Int32}  (x0 : Nat) (x1 : Int32) (w : rW)  {K69 : Option Int32} (hK69 : K69 = some r0 → rEv mX5_signWritten 3 0 0 69 [(1, .int x1)] [] w (rIs (some (.int r0)) w)) : ∀ (f : Nat) (x2 : Int32) (x3 : Int32), J_X5_signWritten_4 x0 w K69 f x2 x3 = some r0 → rEv mX5_signWritten 3 0 0 4 [(0, .ref x0), (1, .int x1), (2, .int x2), (3, .int x3)] [] w (rIs (some (.int r0)) w) := by
  intro f
  induction f with
  | zero =>
    intro x2 x3 h
    exact absurd (show (none : Option Int32) = some r0 from h) (by simp)
  | succ f ih =>
    intro x2 x3 h
    rw [J_X5_signWritten_4] at h
    refine rv_iload_n 3 dX5_signWritten_4 rfl ?_
    refine rv_aload_n 0 dX5_signWritten_5 rfl ?_
    refine rv_getR ff_X5_22 dX5_signWritten_6 h (fun a2 h => ?_)
    refine rv_getI ff_X5_35 dX5_signWritten_9 h (fun v3 h => ?_)
    refine rv_icmp_ge 69 dX5_signWritten_12 (by decide) (fun c4 => ?_) (fun c4 => ?_)
    · replace h := rIfT h c4
      exact rv_sub [1] rfl (hK69 h)
    · replace h := rIfF h c4
      refine rv_aload_n 0 dX5_signWritten_15 rfl ?_
      refine rv_getR ff_X5_9 dX5_signWritten_16 h (fun a5 h => ?_)
      refine rv_iload_n 3 dX5_signWritten_19 rfl ?_
      refine rv_iaload dX5_signWritten_20 h (fun v6 h => ?_)
      obtain ⟨K63, eK63, h⟩ := rLetE h
      have hK63 : ∀ (y2 : Int32), K63 y2 = some r0 → rEv mX5_signWritten 3 0 0 63 [(0, .ref x0), (1, .int x1), (2, .int y2), (3, .int x3)] [] w (rIs (some (.int r0)) w) := by
        intro x2_7 h
        rw [eK63] at h
        obtain ⟨v8, ev8, h⟩ := rLetE h
        refine rv_iinc (v := v8) (l2 := [(3, .int v8), (0, .ref x0), (1, .int x1), (2, .int x2_7)]) 3 dX5_signWritten_63 rfl (by rw [ev8]; rfl) rfl rfl ?_
        clear ev8
        refine rv_goto 4 dX5_signWritten_66 (by decide) ?_
        exact rv_sub [1, 2, 3, 0] rfl (ih x2_7 v8 h)
      clear eK63
      refine rv_if_eq 63 dX5_signWritten_21 (by decide) (fun c9 => ?_) (fun c9 => ?_)
      · replace h := rIfT h c9
        exact rv_sub [0, 1, 2, 3] rfl (hK63 x2 h)
      · replace h := rIfF h c9
        refine rv_iconst (v := 1) dX5_signWritten_24 (by decide) ?_
        refine rv_aload_n 0 dX5_signWritten_25 rfl ?_
        refine rv_getR ff_X5_9 dX5_signWritten_26 h (fun a10 h => ?_)
        refine rv_iload_n 3 dX5_signWritten_29 rfl ?_
        refine rv_iaload dX5_signWritten_30 h (fun v11 h => ?_)
        obtain ⟨v13, h12, h⟩ := rBind h
        refine rv_callSr (k3 := 0) (n3 := 0) (st2 := [.int 1]) (As := [.int v11]) caX5_factorLength csX5_factorLength ml_X5_114 dX5_signWritten_31 rfl (E_X5_factorLength h12) rfl rfl rfl rfl rfl ?_
        clear h12
        refine rv_iadd dX5_signWritten_34 ?_
        refine rv_aload_n 0 dX5_signWritten_35 rfl ?_
        refine rv_getR ff_X5_22 dX5_signWritten_36 h (fun a14 h => ?_)
        refine rv_getI ff_X5_117 dX5_signWritten_39 h (fun v15 h => ?_)
        refine rv_iadd dX5_signWritten_42 ?_
        refine rv_letI h (fun v16 h => ?_)
        refine rv_istore (l2 := [(4, .int v16), (0, .ref x0), (1, .int x1), (2, .int x2), (3, .int x3)]) dX5_signWritten_43 rfl rfl ?_
        refine rv_iload_n 3 dX5_signWritten_45 rfl ?_
        refine rv_iload 0 dX5_signWritten_46 rfl ?_
        refine rv_icmp_ge 58 dX5_signWritten_48 (by decide) (fun c17 => ?_) (fun c17 => ?_)
        · replace h := rIfT h c17
          refine rv_iload_n 3 dX5_signWritten_58 rfl ?_
          refine rv_iload 0 dX5_signWritten_59 rfl ?_
          refine rv_isub dX5_signWritten_61 ?_
          refine rv_letI h (fun v18 h => ?_)
          refine rv_istore_n (l2 := [(2, .int v18), (4, .int v16), (0, .ref x0), (1, .int x1), (3, .int x3)]) dX5_signWritten_62 rfl rfl ?_
          exact rv_sub [2, 3, 0, 4] rfl (hK63 v18 h)
        · replace h := rIfF h c17
          refine rv_aload_n 1 dX5_signWritten_51 rfl ?_
          refine rv_iload_n 4 dX5_signWritten_52 rfl ?_
          refine rv_iload_n 3 dX5_signWritten_53 rfl ?_
          obtain ⟨v20, h19, h⟩ := rBind h
          refine rv_callVr (k3 := 0) (n3 := 0) (st2 := []) caX5_signOfTerm cvX5_signOfTerm ml_X5_120 dX5_signWritten_54 rfl (E_X5_signOfTerm h19).2 (E_X5_signOfTerm h19).1 rfl rfl rfl rfl rfl ?_
          clear h19
          exact rv_iret .int dX5_signWritten_57 rfl rfl (rRetIp h)
set_option maxRecDepth 20000 in
theorem E_X5_signWritten {x0 : Nat} {x1 : Int32} {r0 : Int32} {w : rW} (h : J_X5_signWritten x0 x1 w = some r0) : (∃ fs, w[x0]? = some (cO 5 fs)) ∧ rMet mX5_signWritten 3 0 0 [.ref x0, .int x1] w (rIs (some (.int r0)) w) := by
  unfold J_X5_signWritten at h
  obtain ⟨hrc, h⟩ := rRc_some h
  refine ⟨hrc, ?_⟩
  refine rMet_of (by decide) rfl ?_
  refine rv_iload_n 1 dX5_signWritten_0 rfl ?_
  refine rv_istore_n (l2 := [(2, .int x1), (0, .ref x0), (1, .int x1)]) dX5_signWritten_1 rfl rfl ?_
  refine rv_iconst (v := 0) dX5_signWritten_2 (by decide) ?_
  refine rv_istore_n (l2 := [(3, .int 0), (2, .int x1), (0, .ref x0), (1, .int x1)]) dX5_signWritten_3 rfl rfl ?_
  obtain ⟨K69, eK69, h⟩ := rLetE h
  have hK69 : K69 = some r0 → rEv mX5_signWritten 3 0 0 69 [(1, .int x1)] [] w (rIs (some (.int r0)) w) := by
    intro h
    rw [eK69] at h
    refine rv_iload_n 0 dX5_signWritten_69 rfl ?_
    refine rv_if_ne 78 dX5_signWritten_70 (by decide) (fun c1 => ?_) (fun c1 => ?_)
    · replace h := rIfF h c1
      refine rv_bipush (v := (-5)) dX5_signWritten_78 (by decide) ?_
      exact rv_iret .int dX5_signWritten_80 rfl rfl (rRetIp h)
    · replace h := rIfT h c1
      refine rv_bipush (v := 48) dX5_signWritten_73 (by decide) ?_
      refine rv_goto 80 dX5_signWritten_75 (by decide) ?_
      exact rv_iret .int dX5_signWritten_80 rfl rfl (rRetIp h)
  clear eK69
  exact rv_sub [2, 3, 1, 0] rfl (E_X5_signWritten_4 x0 x1 w hK69 2000 x1 0 h)
set_option maxRecDepth 20000 in
theorem E_X6_init {x0 : Nat} {w0 : rW} {w : rW} (h : J_X6_init x0 w = some w0) : rMet mX6_init 2 14 435 [.ref x0] w (rIs none w0) := by
  unfold J_X6_init at h
  refine rMet_of (by decide) rfl ?_
  refine rv_aload_n 0 dX6_init_0 rfl ?_
  refine rv_objInit ml_X6_1 im_java_lang_Object__init_ co_object dX6_init_1 rfl rfl ?_
  refine rv_aload_n 0 dX6_init_4 rfl ?_
  refine rv_newB 0 6 [.int 0, .int 0, .int 0, .int 0, .null, .null] RX0 TX0 tyX0 rfl fw_X0 tyX0_ok cl_X6_7 ib_X0 in_X0 (by decide +kernel) rfl dX6_init_5 h (fun a1 w2 h => ?_)
  refine rv_dup dX6_init_8 rfl ?_
  obtain ⟨w4, h3, h⟩ := rBind h
  refine rv_callINv (k3 := 11) (n3 := 117) (st2 := [.ref a1, .ref x0]) "TradedDesigns" caX0_init ciX0_init (by decide +kernel) dX6_init_9 rfl (E_X0_init h3) rfl rfl rfl rfl rfl ?_
  clear h3
  refine rv_putFO ff_X6_10 fp_X6_0 dX6_init_12 rfl h (fun w5 h => ?_)
  refine rv_aload_n 0 dX6_init_15 rfl ?_
  refine rv_newB 5 4 [.null, .null, .long 0, .long 0] RX5 TX5 tyX5 rfl fw_X5 tyX5_ok cl_X6_16 ib_X5 in_X5 (by decide +kernel) rfl dX6_init_16 h (fun a6 w7 h => ?_)
  refine rv_dup dX6_init_19 rfl ?_
  refine rv_aload_n 0 dX6_init_20 rfl ?_
  refine rv_getR ff_X6_10 dX6_init_21 h (fun a8 h => ?_)
  obtain ⟨w10, h9, h⟩ := rBind h
  refine rv_callIv (k3 := 9) (n3 := 57) (st2 := [.ref a6, .ref x0]) caX5_init ciX5_init ml_X6_18 dX6_init_24 rfl (E_X5_init h9) rfl rfl rfl rfl rfl ?_
  clear h9
  refine rv_putFO ff_X6_21 fp_X6_1 dX6_init_27 rfl h (fun w11 h => ?_)
  refine rv_aload_n 0 dX6_init_30 rfl ?_
  refine rv_newB 3 3 [.null, .null, .int 0] RX3 TX3 tyX3 rfl fw_X3 tyX3_ok cl_X6_25 ib_X3 in_X3 (by decide +kernel) rfl dX6_init_31 h (fun a12 w13 h => ?_)
  refine rv_dup dX6_init_34 rfl ?_
  refine rv_iconst (v := 4) dX6_init_35 (by decide) ?_
  obtain ⟨w15, h14, h⟩ := rBind h
  refine rv_callIv (k3 := 6) (n3 := 38) (st2 := [.ref a12, .ref x0]) caX3_init ciX3_init ml_X6_27 dX6_init_36 rfl (E_X3_init h14) rfl rfl rfl rfl rfl ?_
  clear h14
  refine rv_putFO ff_X6_30 fp_X6_2 dX6_init_39 rfl h (fun w16 h => ?_)
  refine rv_aload_n 0 dX6_init_42 rfl ?_
  refine rv_newB 3 3 [.null, .null, .int 0] RX3 TX3 tyX3 rfl fw_X3 tyX3_ok cl_X6_25 ib_X3 in_X3 (by decide +kernel) rfl dX6_init_43 h (fun a17 w18 h => ?_)
  refine rv_dup dX6_init_46 rfl ?_
  refine rv_bipush (v := 8) dX6_init_47 (by decide) ?_
  obtain ⟨w20, h19, h⟩ := rBind h
  refine rv_callIv (k3 := 3) (n3 := 19) (st2 := [.ref a17, .ref x0]) caX3_init ciX3_init ml_X6_27 dX6_init_49 rfl (E_X3_init h19) rfl rfl rfl rfl rfl ?_
  clear h19
  refine rv_putFO ff_X6_34 fp_X6_3 dX6_init_52 rfl h (fun w21 h => ?_)
  refine rv_aload_n 0 dX6_init_55 rfl ?_
  refine rv_newB 3 3 [.null, .null, .int 0] RX3 TX3 tyX3 rfl fw_X3 tyX3_ok cl_X6_25 ib_X3 in_X3 (by decide +kernel) rfl dX6_init_56 h (fun a22 w23 h => ?_)
  refine rv_dup dX6_init_59 rfl ?_
  refine rv_bipush (v := 8) dX6_init_60 (by decide) ?_
  obtain ⟨w25, h24, h⟩ := rBind h
  refine rv_callIv (k3 := 0) (n3 := 0) (st2 := [.ref a22, .ref x0]) caX3_init ciX3_init ml_X6_27 dX6_init_62 rfl (E_X3_init h24) rfl rfl rfl rfl rfl ?_
  clear h24
  refine rv_putFO ff_X6_37 fp_X6_4 dX6_init_65 rfl h (fun w26 h => ?_)
  refine rv_aload_n 0 dX6_init_68 rfl ?_
  refine rv_getR ff_X6_10 dX6_init_69 h (fun a27 h => ?_)
  refine rv_bipush (v := 6) dX6_init_72 (by decide) ?_
  refine rv_iconst (v := 3) dX6_init_74 (by decide) ?_
  refine rv_iconst (v := 2) dX6_init_75 (by decide) ?_
  obtain ⟨w29, h28, h⟩ := rBind h
  refine rv_callVv (k3 := 0) (n3 := 0) (st2 := []) caX0_become cvX0_become ml_X6_40 dX6_init_76 rfl (E_X0_become h28).2 (E_X0_become h28).1 rfl rfl rfl rfl rfl ?_
  clear h28
  exact rv_vret dX6_init_79 rfl (rRetV h)
set_option maxRecDepth 20000 in
theorem E_X6_copyFrom {x0 : Nat} {x1 : Nat} {w0 : rW} {w : rW} (h : J_X6_copyFrom x0 x1 w = some w0) : (∃ fs, w[x0]? = some (cO 6 fs)) ∧ rMet mX6_copyFrom 3 0 0 [.ref x0, .ref x1] w (rIs none w0) := by
  unfold J_X6_copyFrom at h
  obtain ⟨hrc, h⟩ := rRc_some h
  refine ⟨hrc, ?_⟩
  refine rMet_of (by decide) rfl ?_
  refine rv_aload_n 0 dX6_copyFrom_0 rfl ?_
  refine rv_getR ff_X6_10 dX6_copyFrom_1 h (fun a1 h => ?_)
  refine rv_aload_n 1 dX6_copyFrom_4 rfl ?_
  refine rv_getR ff_X6_10 dX6_copyFrom_5 h (fun a2 h => ?_)
  obtain ⟨w4, h3, h⟩ := rBind h
  refine rv_callVv (k3 := 0) (n3 := 0) (st2 := []) caX0_copyFrom cvX0_copyFrom ml_X6_44 dX6_copyFrom_8 rfl (E_X0_copyFrom h3).2 (E_X0_copyFrom h3).1 rfl rfl rfl rfl rfl ?_
  clear h3
  refine rv_aload_n 0 dX6_copyFrom_11 rfl ?_
  refine rv_getR ff_X6_21 dX6_copyFrom_12 h (fun a5 h => ?_)
  refine rv_aload_n 1 dX6_copyFrom_15 rfl ?_
  refine rv_getR ff_X6_21 dX6_copyFrom_16 h (fun a6 h => ?_)
  obtain ⟨w8, h7, h⟩ := rBind h
  refine rv_callVv (k3 := 0) (n3 := 0) (st2 := []) caX5_copyFrom cvX5_copyFrom ml_X6_47 dX6_copyFrom_19 rfl (E_X5_copyFrom h7).2 (E_X5_copyFrom h7).1 rfl rfl rfl rfl rfl ?_
  clear h7
  refine rv_aload_n 0 dX6_copyFrom_22 rfl ?_
  refine rv_getR ff_X6_30 dX6_copyFrom_23 h (fun a9 h => ?_)
  refine rv_aload_n 1 dX6_copyFrom_26 rfl ?_
  refine rv_getR ff_X6_30 dX6_copyFrom_27 h (fun a10 h => ?_)
  obtain ⟨w12, h11, h⟩ := rBind h
  refine rv_callVv (k3 := 0) (n3 := 0) (st2 := []) caX3_copyFrom cvX3_copyFrom ml_X6_50 dX6_copyFrom_30 rfl (E_X3_copyFrom h11).2 (E_X3_copyFrom h11).1 rfl rfl rfl rfl rfl ?_
  clear h11
  refine rv_aload_n 0 dX6_copyFrom_33 rfl ?_
  refine rv_getR ff_X6_34 dX6_copyFrom_34 h (fun a13 h => ?_)
  refine rv_aload_n 1 dX6_copyFrom_37 rfl ?_
  refine rv_getR ff_X6_34 dX6_copyFrom_38 h (fun a14 h => ?_)
  obtain ⟨w16, h15, h⟩ := rBind h
  refine rv_callVv (k3 := 0) (n3 := 0) (st2 := []) caX3_copyFrom cvX3_copyFrom ml_X6_50 dX6_copyFrom_41 rfl (E_X3_copyFrom h15).2 (E_X3_copyFrom h15).1 rfl rfl rfl rfl rfl ?_
  clear h15
  refine rv_aload_n 0 dX6_copyFrom_44 rfl ?_
  refine rv_getR ff_X6_37 dX6_copyFrom_45 h (fun a17 h => ?_)
  refine rv_aload_n 1 dX6_copyFrom_48 rfl ?_
  refine rv_getR ff_X6_37 dX6_copyFrom_49 h (fun a18 h => ?_)
  obtain ⟨w20, h19, h⟩ := rBind h
  refine rv_callVv (k3 := 0) (n3 := 0) (st2 := []) caX3_copyFrom cvX3_copyFrom ml_X6_50 dX6_copyFrom_52 rfl (E_X3_copyFrom h19).2 (E_X3_copyFrom h19).1 rfl rfl rfl rfl rfl ?_
  clear h19
  exact rv_vret dX6_copyFrom_55 rfl (rRetV h)
set_option maxRecDepth 20000 in
theorem E_X7_init {x0 : Nat} {w0 : rW} {w : rW} (h : J_X7_init x0 w = some w0) : rMet mX7_init 1 1 60 [.ref x0] w (rIs none w0) := by
  unfold J_X7_init at h
  refine rMet_of (by decide) rfl ?_
  refine rv_aload_n 0 dX7_init_0 rfl ?_
  refine rv_objInit ml_X7_1 im_java_lang_Object__init_ co_object dX7_init_1 rfl rfl ?_
  refine rv_aload_n 0 dX7_init_4 rfl ?_
  refine rv_iconst (v := (-1)) dX7_init_5 (by decide) ?_
  refine rv_putI ff_X7_9 (fp_X7_0 _) dX7_init_6 h (fun w1 h => ?_)
  refine rv_aload_n 0 dX7_init_9 rfl ?_
  refine rv_iconst (v := 0) dX7_init_10 (by decide) ?_
  refine rv_putI ff_X7_13 (fp_X7_1 _) dX7_init_11 h (fun w2 h => ?_)
  refine rv_aload_n 0 dX7_init_14 rfl ?_
  refine rv_bipush (v := 60) dX7_init_15 (by decide) ?_
  refine rv_newJB (b := 60) (by decide) dX7_init_17 h (fun a3 w4 h => ?_)
  refine rv_putFA ff_X7_16 fp_X7_2 dX7_init_19 rfl h (fun w5 h => ?_)
  exact rv_vret dX7_init_22 rfl (rRetV h)
set_option maxRecDepth 20000 in
theorem E_X7_become_21 {w0 : rW}  (x0 : Nat)   : ∀ (f : Nat) (x3 : Int32) (w : rW), J_X7_become_21 x0 f x3 w = some w0 → rEv mX7_become 1 0 0 21 [(0, .ref x0), (3, .int x3)] [] w (rIs none w0) := by
  intro f
  induction f with
  | zero =>
    intro x3 w h
    exact absurd (show (none : Option rW) = some w0 from h) (by simp)
  | succ f ih =>
    intro x3 w h
    rw [J_X7_become_21] at h
    refine rv_iload_n 1 dX7_become_21 rfl ?_
    refine rv_bipush (v := 60) dX7_become_22 (by decide) ?_
    refine rv_icmp_ge 40 dX7_become_24 (by decide) (fun c3 => ?_) (fun c3 => ?_)
    · replace h := rIfT h c3
      exact rv_vret dX7_become_40 rfl (rRetV h)
    · replace h := rIfF h c3
      refine rv_aload_n 0 dX7_become_27 rfl ?_
      refine rv_getR ff_X7_16 dX7_become_28 h (fun a4 h => ?_)
      refine rv_iload_n 1 dX7_become_31 rfl ?_
      refine rv_lconst (v := 0) dX7_become_32 (by decide) ?_
      refine rv_lastore dX7_become_33 h (fun w5 h => ?_)
      obtain ⟨v6, ev6, h⟩ := rLetE h
      refine rv_iinc (v := v6) (l2 := [(3, .int v6), (0, .ref x0)]) 1 dX7_become_34 rfl (by rw [ev6]; rfl) rfl rfl ?_
      clear ev6
      refine rv_goto 21 dX7_become_37 (by decide) ?_
      exact rv_sub [1, 0] rfl (ih v6 w5 h)
set_option maxRecDepth 20000 in
theorem E_X7_become {x0 : Nat} {x1 : Int32} {x2 : Int32} {w0 : rW} {w : rW} (h : J_X7_become x0 x1 x2 w = some w0) : (∃ fs, w[x0]? = some (cO 7 fs)) ∧ rMet mX7_become 1 0 0 [.ref x0, .int x1, .int x2] w (rIs none w0) := by
  unfold J_X7_become at h
  obtain ⟨hrc, h⟩ := rRc_some h
  refine ⟨hrc, ?_⟩
  refine rMet_of (by decide) rfl ?_
  refine rv_aload_n 0 dX7_become_0 rfl ?_
  refine rv_iload_n 1 dX7_become_1 rfl ?_
  refine rv_putI ff_X7_9 (fp_X7_0 _) dX7_become_2 h (fun w1 h => ?_)
  refine rv_aload_n 0 dX7_become_5 rfl ?_
  refine rv_iconst (v := 0) dX7_become_6 (by decide) ?_
  refine rv_iload_n 2 dX7_become_7 rfl ?_
  refine rv_bipush (v := 60) dX7_become_8 (by decide) ?_
  refine rv_mmin ml_X7_20 sm_J9_min_7cf53 in_J9 co_J9_min_7cf53 dX7_become_10 rfl rfl ?_
  refine rv_mmax ml_X7_26 sm_J9_max_7cf53 in_J9 co_J9_max_7cf53 dX7_become_13 rfl rfl ?_
  refine rv_putI ff_X7_13 (fp_X7_1 _) dX7_become_16 h (fun w2 h => ?_)
  refine rv_iconst (v := 0) dX7_become_19 (by decide) ?_
  refine rv_istore_n (l2 := [(3, .int 0), (0, .ref x0), (1, .int x1), (2, .int x2)]) dX7_become_20 rfl rfl ?_
  exact rv_sub [1, 0] rfl (E_X7_become_21 x0 2000 0 w2 h)
set_option maxRecDepth 20000 in
theorem E_X7_isEmpty {x0 : Nat} {r0 : Bool} {w : rW} (h : J_X7_isEmpty x0 w = some r0) : (∃ fs, w[x0]? = some (cO 7 fs)) ∧ rMet mX7_isEmpty 0 0 0 [.ref x0] w (rIs (some (.int (bi r0))) w) := by
  unfold J_X7_isEmpty at h
  obtain ⟨hrc, h⟩ := rRc_some h
  refine ⟨hrc, ?_⟩
  refine rMet_of (by decide) rfl ?_
  refine rv_aload_n 0 dX7_isEmpty_0 rfl ?_
  refine rv_getI ff_X7_9 dX7_isEmpty_1 h (fun v1 h => ?_)
  refine rv_iconst (v := (-1)) dX7_isEmpty_4 (by decide) ?_
  refine rv_icmp_ne 12 dX7_isEmpty_5 (by decide) (fun c2 => ?_) (fun c2 => ?_)
  · replace h := rIfF h c2
    refine rv_iconst (v := 0) dX7_isEmpty_12 (by decide) ?_
    exact rv_iret .boolean dX7_isEmpty_13 rfl (by decide) (rRetZp (x := 0) h rfl)
  · replace h := rIfT h c2
    refine rv_iconst (v := 1) dX7_isEmpty_8 (by decide) ?_
    refine rv_goto 13 dX7_isEmpty_9 (by decide) ?_
    exact rv_iret .boolean dX7_isEmpty_13 rfl (by decide) (rRetZp (x := 1) h rfl)
set_option maxRecDepth 20000 in
theorem E_X7_hasPlace {x0 : Nat} {x1 : Int32} {r0 : Bool} {w : rW} (h : J_X7_hasPlace x0 x1 w = some r0) : (∃ fs, w[x0]? = some (cO 7 fs)) ∧ rMet mX7_hasPlace 0 0 0 [.ref x0, .int x1] w (rIs (some (.int (bi r0))) w) := by
  unfold J_X7_hasPlace at h
  obtain ⟨hrc, h⟩ := rRc_some h
  refine ⟨hrc, ?_⟩
  refine rMet_of (by decide) rfl ?_
  refine rv_iload_n 1 dX7_hasPlace_0 rfl ?_
  obtain ⟨K16, eK16, h⟩ := rLetE h
  have hK16 : K16 = some r0 → rEv mX7_hasPlace 0 0 0 16 [] [] w (rIs (some (.int (bi r0))) w) := by
    intro h
    rw [eK16] at h
    refine rv_iconst (v := 0) dX7_hasPlace_16 (by decide) ?_
    exact rv_iret .boolean dX7_hasPlace_17 rfl (by decide) (rRetZp (x := 0) h rfl)
  clear eK16
  refine rv_if_lt 16 dX7_hasPlace_1 (by decide) (fun c1 => ?_) (fun c1 => ?_)
  · replace h := rIfT h c1
    exact rv_sub [] rfl (hK16 h)
  · replace h := rIfF h c1
    refine rv_iload_n 1 dX7_hasPlace_4 rfl ?_
    refine rv_aload_n 0 dX7_hasPlace_5 rfl ?_
    refine rv_getI ff_X7_13 dX7_hasPlace_6 h (fun v2 h => ?_)
    refine rv_icmp_ge 16 dX7_hasPlace_9 (by decide) (fun c3 => ?_) (fun c3 => ?_)
    · replace h := rIfT h c3
      exact rv_sub [] rfl (hK16 h)
    · replace h := rIfF h c3
      refine rv_iconst (v := 1) dX7_hasPlace_12 (by decide) ?_
      refine rv_goto 17 dX7_hasPlace_13 (by decide) ?_
      exact rv_iret .boolean dX7_hasPlace_17 rfl (by decide) (rRetZp (x := 1) h rfl)
set_option maxRecDepth 20000 in
theorem E_X7_hasPlaces {x0 : Nat} {x1 : Int32} {x2 : Int32} {r0 : Bool} {w : rW} (h : J_X7_hasPlaces x0 x1 x2 w = some r0) : (∃ fs, w[x0]? = some (cO 7 fs)) ∧ rMet mX7_hasPlaces 0 0 0 [.ref x0, .int x1, .int x2] w (rIs (some (.int (bi r0))) w) := by
  unfold J_X7_hasPlaces at h
  obtain ⟨hrc, h⟩ := rRc_some h
  refine ⟨hrc, ?_⟩
  refine rMet_of (by decide) rfl ?_
  refine rv_iload_n 2 dX7_hasPlaces_0 rfl ?_
  obtain ⟨K30, eK30, h⟩ := rLetE h
  have hK30 : K30 = some r0 → rEv mX7_hasPlaces 0 0 0 30 [] [] w (rIs (some (.int (bi r0))) w) := by
    intro h
    rw [eK30] at h
    refine rv_iconst (v := 0) dX7_hasPlaces_30 (by decide) ?_
    exact rv_iret .boolean dX7_hasPlaces_31 rfl (by decide) (rRetZp (x := 0) h rfl)
  clear eK30
  refine rv_if_lt 30 dX7_hasPlaces_1 (by decide) (fun c1 => ?_) (fun c1 => ?_)
  · replace h := rIfT h c1
    exact rv_sub [] rfl (hK30 h)
  · replace h := rIfF h c1
    refine rv_iload_n 2 dX7_hasPlaces_4 rfl ?_
    refine rv_aload_n 0 dX7_hasPlaces_5 rfl ?_
    refine rv_getI ff_X7_13 dX7_hasPlaces_6 h (fun v2 h => ?_)
    refine rv_icmp_gt 30 dX7_hasPlaces_9 (by decide) (fun c3 => ?_) (fun c3 => ?_)
    · replace h := rIfT h c3
      exact rv_sub [] rfl (hK30 h)
    · replace h := rIfF h c3
      refine rv_iload_n 1 dX7_hasPlaces_12 rfl ?_
      refine rv_if_lt 30 dX7_hasPlaces_13 (by decide) (fun c4 => ?_) (fun c4 => ?_)
      · replace h := rIfT h c4
        exact rv_sub [] rfl (hK30 h)
      · replace h := rIfF h c4
        refine rv_iload_n 1 dX7_hasPlaces_16 rfl ?_
        refine rv_aload_n 0 dX7_hasPlaces_17 rfl ?_
        refine rv_getI ff_X7_13 dX7_hasPlaces_18 h (fun v5 h => ?_)
        refine rv_iload_n 2 dX7_hasPlaces_21 rfl ?_
        refine rv_isub dX7_hasPlaces_22 ?_
        refine rv_icmp_gt 30 dX7_hasPlaces_23 (by decide) (fun c6 => ?_) (fun c6 => ?_)
        · replace h := rIfT h c6
          exact rv_sub [] rfl (hK30 h)
        · replace h := rIfF h c6
          refine rv_iconst (v := 1) dX7_hasPlaces_26 (by decide) ?_
          refine rv_goto 31 dX7_hasPlaces_27 (by decide) ?_
          exact rv_iret .boolean dX7_hasPlaces_31 rfl (by decide) (rRetZp (x := 1) h rfl)
set_option maxRecDepth 20000 in
theorem E_X7_asItem {x0 : Nat} {x1 : Int64} {r0 : Int64} {w : rW} (h : J_X7_asItem x0 x1 w = some r0) : (∃ fs, w[x0]? = some (cO 7 fs)) ∧ rMet mX7_asItem 0 0 0 [.ref x0, .long x1] w (rIs (some (.long r0)) w) := by
  unfold J_X7_asItem at h
  obtain ⟨hrc, h⟩ := rRc_some h
  refine ⟨hrc, ?_⟩
  refine rMet_of (by decide) rfl ?_
  refine rv_aload_n 0 dX7_asItem_0 rfl ?_
  refine rv_getI ff_X7_9 dX7_asItem_1 h (fun v1 h => ?_)
  refine rIf h (fun c2 h => ?_) (fun c2 h => ?_)
  · refine rv_tswIn 40 dX7_asItem_4 c2 (by decide) (by decide) rfl (by decide) ?_
    refine rv_lload_n 1 dX7_asItem_40 rfl ?_
    refine rv_l2i dX7_asItem_41 ?_
    refine rv_i2b dX7_asItem_42 ?_
    refine rv_i2l dX7_asItem_43 ?_
    exact rv_lret dX7_asItem_44 rfl (rRetJp h)
  refine rIf h (fun c3 h => ?_) (fun c3 h => ?_)
  · refine rv_tswIn 45 dX7_asItem_4 c3 (by decide) (by decide) rfl (by decide) ?_
    refine rv_lload_n 1 dX7_asItem_45 rfl ?_
    refine rv_l2i dX7_asItem_46 ?_
    refine rv_i2s dX7_asItem_47 ?_
    refine rv_i2l dX7_asItem_48 ?_
    exact rv_lret dX7_asItem_49 rfl (rRetJp h)
  refine rIf h (fun c4 h => ?_) (fun c4 h => ?_)
  · refine rv_tswIn 50 dX7_asItem_4 c4 (by decide) (by decide) rfl (by decide) ?_
    refine rv_lload_n 1 dX7_asItem_50 rfl ?_
    refine rv_l2i dX7_asItem_51 ?_
    refine rv_i2l dX7_asItem_52 ?_
    exact rv_lret dX7_asItem_53 rfl (rRetJp h)
  refine rIf h (fun c5 h => ?_) (fun c5 h => ?_)
  · refine rv_tswIn 54 dX7_asItem_4 c5 (by decide) (by decide) rfl (by decide) ?_
    refine rv_lload_n 1 dX7_asItem_54 rfl ?_
    refine rv_lconst (v := 0) dX7_asItem_55 (by decide) ?_
    refine rv_lcmp dX7_asItem_56 ?_
    refine rv_if_eq 64 dX7_asItem_57 (by decide) (fun c6 => ?_) (fun c6 => ?_)
    · replace h := rIfT h c6
      refine rv_lconst (v := 0) dX7_asItem_64 (by decide) ?_
      exact rv_lret dX7_asItem_65 rfl (rRetJp h)
    · replace h := rIfF h c6
      refine rv_lconst (v := 1) dX7_asItem_60 (by decide) ?_
      refine rv_goto 65 dX7_asItem_61 (by decide) ?_
      exact rv_lret dX7_asItem_65 rfl (rRetJp h)
  refine rv_tswOut 66 [0, 1, 2, 4] dX7_asItem_4 (by decide) (by decide) (by decide) (fun v hv => ?_) ?_
  · simp only [List.mem_cons, List.not_mem_nil, or_false] at hv
    rcases hv with rfl | rfl | rfl | rfl
    · exact c2
    · exact c3
    · exact c4
    · exact c5
  refine rv_lload_n 1 dX7_asItem_66 rfl ?_
  exact rv_lret dX7_asItem_67 rfl (rRetJp h)
set_option maxRecDepth 20000 in
theorem E_X8_take_18 {r0 : Bool} {w0 : rW}  (x0 : Nat) (x1 : Nat)  {K81 : Int32 → rW → Option (Bool × rW)} (hK81 : ∀ (y3 : Int32) (w : rW), K81 y3 w = some (r0, w0) → rEv mX8_take 2 0 0 81 [(3, .int y3)] [] w (rIs (some (.int (bi r0))) w0)) : ∀ (f : Nat) (x3 : Int32) (x4 : Int32) (x5 : Int32) (w : rW), J_X8_take_18 x0 x1 K81 f x3 x4 x5 w = some (r0, w0) → rEv mX8_take 2 0 0 18 [(0, .ref x0), (1, .ref x1), (3, .int x3), (4, .int x4), (5, .int x5)] [] w (rIs (some (.int (bi r0))) w0) := by
  intro f
  induction f with
  | zero =>
    intro x3 x4 x5 w h
    exact absurd (show (none : Option (Bool × rW)) = some (r0, w0) from h) (by simp)
  | succ f ih =>
    intro x3 x4 x5 w h
    rw [J_X8_take_18] at h
    refine rv_iload 4 dX8_take_18 rfl ?_
    refine rv_if_lt 81 dX8_take_20 (by decide) (fun c8 => ?_) (fun c8 => ?_)
    · replace h := rIfT h c8
      exact rv_sub [2] rfl (hK81 x3 w h)
    · replace h := rIfF h c8
      refine rv_iload_n 2 dX8_take_23 rfl ?_
      refine rv_bipush (v := 10) dX8_take_24 (by decide) ?_
      refine rv_iremB dX8_take_26 h (fun v9 h => ?_)
      refine rv_iconst (v := 1) dX8_take_27 (by decide) ?_
      refine rv_isub dX8_take_28 ?_
      refine rv_letI h (fun v10 h => ?_)
      refine rv_istore (l2 := [(6, .int v10), (0, .ref x0), (1, .ref x1), (3, .int x3), (4, .int x4), (5, .int x5)]) dX8_take_29 rfl rfl ?_
      refine rv_iload_n 3 dX8_take_31 rfl ?_
      refine rv_bipush (v := 10) dX8_take_32 (by decide) ?_
      refine rv_idivB dX8_take_34 h (fun v11 h => ?_)
      refine rv_istore_n (l2 := [(3, .int v11), (6, .int v10), (0, .ref x0), (1, .ref x1), (4, .int x4), (5, .int x5)]) dX8_take_35 rfl rfl ?_
      refine rv_aload_n 3 dX8_take_36 rfl ?_
      refine rv_iload 1 dX8_take_37 rfl ?_
      obtain ⟨b13, h12, h⟩ := rBind h
      refine rv_callVr (k3 := 0) (n3 := 0) (st2 := []) caX0_hasPoint cvX0_hasPoint ml_X8_38 dX8_take_39 rfl (E_X0_hasPoint h12).2 (E_X0_hasPoint h12).1 rfl rfl rfl rfl rfl ?_
      clear h12
      refine rv_if_eq 55 dX8_take_42 (by decide) (fun c14 => ?_) (fun c14 => ?_)
      · replace h := rIfT h c14
        refine rv_iconst (v := 0) dX8_take_55 (by decide) ?_
        exact rv_iret .boolean dX8_take_56 rfl (by decide) (rRetZw (x := 0) h rfl)
      · replace h := rIfF h c14
        refine rv_iload 4 dX8_take_45 rfl ?_
        refine rv_iload 1 dX8_take_47 rfl ?_
        refine rv_ishr dX8_take_49 ?_
        refine rv_iconst (v := 1) dX8_take_50 (by decide) ?_
        refine rv_iand dX8_take_51 ?_
        refine rv_if_eq 57 dX8_take_52 (by decide) (fun c15 => ?_) (fun c15 => ?_)
        · replace h := rIfT h c15
          refine rv_iload 4 dX8_take_57 rfl ?_
          refine rv_iconst (v := 1) dX8_take_59 (by decide) ?_
          refine rv_iload 1 dX8_take_60 rfl ?_
          refine rv_ishl dX8_take_62 ?_
          refine rv_ior dX8_take_63 ?_
          refine rv_letI h (fun v16 h => ?_)
          refine rv_istore (l2 := [(4, .int v16), (3, .int v11), (6, .int v10), (0, .ref x0), (1, .ref x1), (5, .int x5)]) dX8_take_64 rfl rfl ?_
          refine rv_aload_n 3 dX8_take_66 rfl ?_
          refine rv_getR ff_X8_9 dX8_take_67 h (fun a17 h => ?_)
          refine rv_iload 5 dX8_take_70 rfl ?_
          refine rv_iload 2 dX8_take_72 rfl ?_
          refine rv_iastore dX8_take_74 h (fun w18 h => ?_)
          obtain ⟨v19, ev19, h⟩ := rLetE h
          refine rv_iinc (v := v19) (l2 := [(5, .int v19), (4, .int v16), (3, .int v11), (6, .int v10), (0, .ref x0), (1, .ref x1)]) 5 dX8_take_75 rfl (by rw [ev19]; rfl) rfl rfl ?_
          clear ev19
          refine rv_goto 18 dX8_take_78 (by decide) ?_
          exact rv_sub [4, 5, 2, 1, 0] rfl (ih v11 v16 v19 w18 h)
        · replace h := rIfF h c15
          refine rv_iconst (v := 0) dX8_take_55 (by decide) ?_
          exact rv_iret .boolean dX8_take_56 rfl (by decide) (rRetZw (x := 0) h rfl)
set_option maxRecDepth 20000 in
theorem E_X8_take {x0 : Nat} {x1 : Nat} {x2 : Int32} {r0 : Bool} {w0 : rW} {w : rW} (h : J_X8_take x0 x1 x2 w = some (r0, w0)) : (∃ fs, w[x0]? = some (cO 8 fs)) ∧ rMet mX8_take 2 0 0 [.ref x0, .ref x1, .int x2] w (rIs (some (.int (bi r0))) w0) := by
  unfold J_X8_take at h
  obtain ⟨hrc, h⟩ := rRc_some h
  refine ⟨hrc, ?_⟩
  refine rMet_of (by decide) rfl ?_
  refine rv_aload_n 0 dX8_take_0 rfl ?_
  refine rv_aload_n 1 dX8_take_1 rfl ?_
  obtain ⟨w2, h1, h⟩ := rBind h
  refine rv_callVv (k3 := 0) (n3 := 0) (st2 := []) caX8_becomeFor cvX8_becomeFor ml_X8_34 dX8_take_2 rfl (E_X8_becomeFor h1).2 (E_X8_becomeFor h1).1 rfl rfl rfl rfl rfl ?_
  clear h1
  refine rv_iload_n 2 dX8_take_5 rfl ?_
  refine rv_istore_n (l2 := [(3, .int x2), (0, .ref x0), (1, .ref x1), (2, .int x2)]) dX8_take_6 rfl rfl ?_
  refine rv_iconst (v := 0) dX8_take_7 (by decide) ?_
  refine rv_istore (l2 := [(4, .int 0), (3, .int x2), (0, .ref x0), (1, .ref x1), (2, .int x2)]) dX8_take_8 rfl rfl ?_
  refine rv_aload_n 2 dX8_take_10 rfl ?_
  refine rv_getI ff_X8_17 dX8_take_11 h (fun v3 h => ?_)
  refine rv_iconst (v := 1) dX8_take_14 (by decide) ?_
  refine rv_isub dX8_take_15 ?_
  refine rv_letI h (fun v4 h => ?_)
  refine rv_istore (l2 := [(5, .int v4), (4, .int 0), (3, .int x2), (0, .ref x0), (1, .ref x1), (2, .int x2)]) dX8_take_16 rfl rfl ?_
  obtain ⟨K81, eK81, h⟩ := rLetE h
  have hK81 : ∀ (y3 : Int32) (w : rW), K81 y3 w = some (r0, w0) → rEv mX8_take 2 0 0 81 [(3, .int y3)] [] w (rIs (some (.int (bi r0))) w0) := by
    intro x3_5 w6 h
    rw [eK81] at h
    refine rv_iload_n 0 dX8_take_81 rfl ?_
    refine rv_if_ne 89 dX8_take_82 (by decide) (fun c7 => ?_) (fun c7 => ?_)
    · replace h := rIfF h c7
      refine rv_iconst (v := 0) dX8_take_89 (by decide) ?_
      exact rv_iret .boolean dX8_take_90 rfl (by decide) (rRetZw (x := 0) h rfl)
    · replace h := rIfT h c7
      refine rv_iconst (v := 1) dX8_take_85 (by decide) ?_
      refine rv_goto 90 dX8_take_86 (by decide) ?_
      exact rv_iret .boolean dX8_take_90 rfl (by decide) (rRetZw (x := 1) h rfl)
  clear eK81
  exact rv_sub [3, 4, 2, 1, 0] rfl (E_X8_take_18 x0 x1 hK81 2000 x2 0 v4 w2 h)
set_option maxRecDepth 20000 in
theorem E_X9_init_104 {w0 : rW}  (x0 : Nat)   : ∀ (f : Nat) (x1 : Int32) (w : rW), J_X9_init_104 x0 (f + 1) x1 w = some w0 → rEv mX9_init 3 (2 * f) (63 * f) 104 [(0, .ref x0), (1, .int x1)] [] w (rIs none w0) := by
  intro f
  induction f with
  | zero =>
    intro x1 w h
    rw [J_X9_init_104] at h
    refine rv_iload_n 1 dX9_init_104 rfl ?_
    refine rv_bipush (v := 6) dX9_init_105 (by decide) ?_
    refine rv_icmp_ge 129 dX9_init_107 (by decide) (fun c42 => ?_) (fun c42 => ?_)
    · replace h := rIfT h c42
      replace h := rIfT h rfl
      exact rv_vret dX9_init_129 rfl (rRetV h)
    · replace h := rIfF h c42
      exact absurd (rIfT h rfl) (by simp)
  | succ f ih =>
    intro x1 w h
    rw [J_X9_init_104] at h
    refine rv_iload_n 1 dX9_init_104 rfl ?_
    refine rv_bipush (v := 6) dX9_init_105 (by decide) ?_
    refine rv_icmp_ge 129 dX9_init_107 (by decide) (fun c42 => ?_) (fun c42 => ?_)
    · replace h := rIfT h c42
      exact absurd (rIfF h (Nat.succ_ne_zero f)) (by simp)
    · replace h := rIfF h c42
      replace h := rIfF h (Nat.succ_ne_zero f)
      show rEv _ _ (2 * f + 2) (63 * f + 63) _ _ _ _ _
      refine rv_aload_n 0 dX9_init_110 rfl ?_
      refine rv_getR ff_X9_68 dX9_init_111 h (fun a43 h => ?_)
      refine rv_iload_n 1 dX9_init_114 rfl ?_
      refine rv_newB 7 3 [.int 0, .int 0, .null] RX7 TX7 tyX7 rfl fw_X7 tyX7_ok cl_X9_66 ib_X7 in_X7 (by decide +kernel) rfl dX9_init_115 h (fun a44 w45 h => ?_)
      refine rv_dup dX9_init_118 rfl ?_
      obtain ⟨w47, h46, h⟩ := rBind h
      refine rv_callINv (k3 := 2 * f) (n3 := 63 * f) (st2 := [.ref a44, .int x1, .ref a43]) "TradedDesigns" caX7_init ciX7_init (by decide +kernel) dX9_init_119 rfl (E_X7_init h46) rfl rfl rfl (by omega) (by omega) ?_
      clear h46
      refine rv_aastore 7 rfl dX9_init_122 h (fun w48 h => ?_)
      obtain ⟨v49, ev49, h⟩ := rLetE h
      refine rv_iinc (v := v49) (l2 := [(1, .int v49), (0, .ref x0)]) 1 dX9_init_123 rfl (by rw [ev49]; rfl) rfl rfl ?_
      clear ev49
      refine rv_goto 104 dX9_init_126 (by decide) ?_
      exact rv_sub [1, 0] rfl (ih v49 w48 h)
set_option maxRecDepth 20000 in
theorem E_X9_init {x0 : Nat} {w0 : rW} {w : rW} (h : J_X9_init x0 w = some w0) : rMet mX9_init 3 59 1574 [.ref x0] w (rIs none w0) := by
  unfold J_X9_init at h
  refine rMet_of (by decide) rfl ?_
  refine rv_aload_n 0 dX9_init_0 rfl ?_
  refine rv_objInit ml_X9_3 im_java_lang_Object__init_ co_object dX9_init_1 rfl rfl ?_
  refine rv_aload_n 0 dX9_init_4 rfl ?_
  refine rv_newB 6 5 [.null, .null, .null, .null, .null] RX6 TX6 tyX6 rfl fw_X6 tyX6_ok cl_X9_9 ib_X6 in_X6 (by decide +kernel) rfl dX9_init_5 h (fun a1 w2 h => ?_)
  refine rv_dup dX9_init_8 rfl ?_
  obtain ⟨w4, h3, h⟩ := rBind h
  refine rv_callIv (k3 := 44) (n3 := 1134) (st2 := [.ref a1, .ref x0]) caX6_init ciX6_init ml_X9_11 dX9_init_9 rfl (E_X6_init h3) rfl rfl rfl rfl rfl ?_
  clear h3
  refine rv_putFO ff_X9_12 fp_X9_0 dX9_init_12 rfl h (fun w5 h => ?_)
  refine rv_aload_n 0 dX9_init_15 rfl ?_
  refine rv_newB 6 5 [.null, .null, .null, .null, .null] RX6 TX6 tyX6 rfl fw_X6 tyX6_ok cl_X9_9 ib_X6 in_X6 (by decide +kernel) rfl dX9_init_16 h (fun a6 w7 h => ?_)
  refine rv_dup dX9_init_19 rfl ?_
  obtain ⟨w9, h8, h⟩ := rBind h
  refine rv_callIv (k3 := 29) (n3 := 694) (st2 := [.ref a6, .ref x0]) caX6_init ciX6_init ml_X9_11 dX9_init_20 rfl (E_X6_init h8) rfl rfl rfl rfl rfl ?_
  clear h8
  refine rv_putFO ff_X9_18 fp_X9_1 dX9_init_23 rfl h (fun w10 h => ?_)
  refine rv_aload_n 0 dX9_init_26 rfl ?_
  refine rv_iconst (v := 0) dX9_init_27 (by decide) ?_
  refine rv_putZ ff_X9_21 (fp_X9_2 _) dX9_init_28 (by decide) (by decide) h (fun w11 h => ?_)
  refine rv_aload_n 0 dX9_init_31 rfl ?_
  refine rv_newB 5 4 [.null, .null, .long 0, .long 0] RX5 TX5 tyX5 rfl fw_X5 tyX5_ok cl_X9_25 ib_X5 in_X5 (by decide +kernel) rfl dX9_init_32 h (fun a12 w13 h => ?_)
  refine rv_dup dX9_init_35 rfl ?_
  refine rv_aload_n 0 dX9_init_36 rfl ?_
  refine rv_getR ff_X9_12 dX9_init_37 h (fun a14 h => ?_)
  refine rv_getR ff_X9_27 dX9_init_40 h (fun a15 h => ?_)
  obtain ⟨w17, h16, h⟩ := rBind h
  refine rv_callIv (k3 := 27) (n3 := 634) (st2 := [.ref a12, .ref x0]) caX5_init ciX5_init ml_X9_31 dX9_init_43 rfl (E_X5_init h16) rfl rfl rfl rfl rfl ?_
  clear h16
  refine rv_putFO ff_X9_34 fp_X9_3 dX9_init_46 rfl h (fun w18 h => ?_)
  refine rv_aload_n 0 dX9_init_49 rfl ?_
  refine rv_newB 8 3 [.null, .int 0, .int 0] RX8 TX8 tyX8 rfl fw_X8 tyX8_ok cl_X9_38 ib_X8 in_X8 (by decide +kernel) rfl dX9_init_50 h (fun a19 w20 h => ?_)
  refine rv_dup dX9_init_53 rfl ?_
  obtain ⟨w22, h21, h⟩ := rBind h
  refine rv_callINv (k3 := 25) (n3 := 625) (st2 := [.ref a19, .ref x0]) "TradedDesigns" caX8_init ciX8_init (by decide +kernel) dX9_init_54 rfl (E_X8_init h21) rfl rfl rfl rfl rfl ?_
  clear h21
  refine rv_putFO ff_X9_41 fp_X9_4 dX9_init_57 rfl h (fun w23 h => ?_)
  refine rv_aload_n 0 dX9_init_60 rfl ?_
  refine rv_newB 1 4 [.null, .int 0, .int 0, .int 0] RX1 TX1 tyX1 rfl fw_X1 tyX1_ok cl_X9_45 ib_X1 in_X1 (by decide +kernel) rfl dX9_init_61 h (fun a24 w25 h => ?_)
  refine rv_dup dX9_init_64 rfl ?_
  obtain ⟨w27, h26, h⟩ := rBind h
  refine rv_callINv (k3 := 22) (n3 := 612) (st2 := [.ref a24, .ref x0]) "TradedDesigns" caX1_init ciX1_init (by decide +kernel) dX9_init_65 rfl (E_X1_init h26) rfl rfl rfl rfl rfl ?_
  clear h26
  refine rv_putFO ff_X9_48 fp_X9_5 dX9_init_68 rfl h (fun w28 h => ?_)
  refine rv_aload_n 0 dX9_init_71 rfl ?_
  refine rv_newB 2 8 [.int 0, .int 0, .int 0, .int 0, .null, .null, .null, .null] RX2 TX2 tyX2 rfl fw_X2 tyX2_ok cl_X9_52 ib_X2 in_X2 (by decide +kernel) rfl dX9_init_72 h (fun a29 w30 h => ?_)
  refine rv_dup dX9_init_75 rfl ?_
  obtain ⟨w32, h31, h⟩ := rBind h
  refine rv_callINv (k3 := 17) (n3 := 538) (st2 := [.ref a29, .ref x0]) "TradedDesigns" caX2_init ciX2_init (by decide +kernel) dX9_init_76 rfl (E_X2_init h31) rfl rfl rfl rfl rfl ?_
  clear h31
  refine rv_putFO ff_X9_55 fp_X9_6 dX9_init_79 rfl h (fun w33 h => ?_)
  refine rv_aload_n 0 dX9_init_82 rfl ?_
  refine rv_newB 4 6 [.null, .int 0, .null, .null, .int 0, .int 0] RX4 TX4 tyX4 rfl fw_X4 tyX4_ok cl_X9_59 ib_X4 in_X4 (by decide +kernel) rfl dX9_init_83 h (fun a34 w35 h => ?_)
  refine rv_dup dX9_init_86 rfl ?_
  obtain ⟨w37, h36, h⟩ := rBind h
  refine rv_callINv (k3 := 13) (n3 := 384) (st2 := [.ref a34, .ref x0]) "TradedDesigns" caX4_init ciX4_init (by decide +kernel) dX9_init_87 rfl (E_X4_init h36) rfl rfl rfl rfl rfl ?_
  clear h36
  refine rv_putFO ff_X9_62 fp_X9_7 dX9_init_90 rfl h (fun w38 h => ?_)
  refine rv_aload_n 0 dX9_init_93 rfl ?_
  refine rv_bipush (v := 6) dX9_init_94 (by decide) ?_
  refine rv_newRB (b := 6) (by decide) cl_X9_66 dX9_init_96 h (fun a39 w40 h => ?_)
  refine rv_putFA ff_X9_68 fp_X9_8 dX9_init_99 rfl h (fun w41 h => ?_)
  refine rv_iconst (v := 0) dX9_init_102 (by decide) ?_
  refine rv_istore_n (l2 := [(1, .int 0), (0, .ref x0)]) dX9_init_103 rfl rfl ?_
  exact rv_sub [1, 0] rfl (E_X9_init_104 x0 6 0 w41 h)
set_option maxRecDepth 20000 in
theorem E_X9_size {x0 : Nat} {x1 : Int32} {x2 : Int32} {x3 : Int32} {r0 : Int32} {w0 : rW} {w : rW} (h : J_X9_size x0 x1 x2 x3 w = some (r0, w0)) : (∃ fs, w[x0]? = some (cO 9 fs)) ∧ rMet mX9_size 2 0 0 [.ref x0, .int x1, .int x2, .int x3] w (rIs (some (.int r0)) w0) := by
  unfold J_X9_size at h
  obtain ⟨hrc, h⟩ := rRc_some h
  refine ⟨hrc, ?_⟩
  refine rMet_of (by decide) rfl ?_
  refine rv_iload_n 1 dX9_size_0 rfl ?_
  refine rv_iconst (v := 4) dX9_size_1 (by decide) ?_
  refine rv_icmp_lt 33 dX9_size_2 (by decide) (fun c1 => ?_) (fun c1 => ?_)
  · replace h := rIfT h c1
    refine rv_bipush (v := (-2)) dX9_size_33 (by decide) ?_
    exact rv_iret .int dX9_size_35 rfl rfl (rRetIw h)
  · replace h := rIfF h c1
    refine rv_iload_n 1 dX9_size_5 rfl ?_
    refine rv_bipush (v := 8) dX9_size_6 (by decide) ?_
    refine rv_icmp_gt 33 dX9_size_8 (by decide) (fun c2 => ?_) (fun c2 => ?_)
    · replace h := rIfT h c2
      refine rv_bipush (v := (-2)) dX9_size_33 (by decide) ?_
      exact rv_iret .int dX9_size_35 rfl rfl (rRetIw h)
    · replace h := rIfF h c2
      refine rv_iload_n 2 dX9_size_11 rfl ?_
      refine rv_iconst (v := 2) dX9_size_12 (by decide) ?_
      refine rv_icmp_lt 33 dX9_size_13 (by decide) (fun c3 => ?_) (fun c3 => ?_)
      · replace h := rIfT h c3
        refine rv_bipush (v := (-2)) dX9_size_33 (by decide) ?_
        exact rv_iret .int dX9_size_35 rfl rfl (rRetIw h)
      · replace h := rIfF h c3
        refine rv_iload_n 2 dX9_size_16 rfl ?_
        refine rv_iconst (v := 3) dX9_size_17 (by decide) ?_
        refine rv_icmp_gt 33 dX9_size_18 (by decide) (fun c4 => ?_) (fun c4 => ?_)
        · replace h := rIfT h c4
          refine rv_bipush (v := (-2)) dX9_size_33 (by decide) ?_
          exact rv_iret .int dX9_size_35 rfl rfl (rRetIw h)
        · replace h := rIfF h c4
          refine rv_iload_n 3 dX9_size_21 rfl ?_
          refine rv_iconst (v := 1) dX9_size_22 (by decide) ?_
          refine rv_icmp_lt 33 dX9_size_23 (by decide) (fun c5 => ?_) (fun c5 => ?_)
          · replace h := rIfT h c5
            refine rv_bipush (v := (-2)) dX9_size_33 (by decide) ?_
            exact rv_iret .int dX9_size_35 rfl rfl (rRetIw h)
          · replace h := rIfF h c5
            refine rv_iload_n 3 dX9_size_26 rfl ?_
            refine rv_iload_n 2 dX9_size_27 rfl ?_
            refine rv_iconst (v := 1) dX9_size_28 (by decide) ?_
            refine rv_isub dX9_size_29 ?_
            refine rv_icmp_le 36 dX9_size_30 (by decide) (fun c6 => ?_) (fun c6 => ?_)
            · replace h := rIfT h c6
              refine rv_aload_n 0 dX9_size_36 rfl ?_
              refine rv_getR ff_X9_12 dX9_size_37 h (fun a7 h => ?_)
              refine rv_getR ff_X9_27 dX9_size_40 h (fun a8 h => ?_)
              obtain ⟨v10, h9, h⟩ := rBind h
              refine rv_callVr (k3 := 0) (n3 := 0) (st2 := []) caX0_sizes cvX0_sizes ml_X9_73 dX9_size_43 rfl (E_X0_sizes h9).2 (E_X0_sizes h9).1 rfl rfl rfl rfl rfl ?_
              clear h9
              refine rv_istore (l2 := [(4, .int v10), (0, .ref x0), (1, .int x1), (2, .int x2), (3, .int x3)]) dX9_size_46 rfl rfl ?_
              refine rv_aload_n 1 dX9_size_48 rfl ?_
              refine rv_getR ff_X9_12 dX9_size_49 h (fun a11 h => ?_)
              refine rv_getR ff_X9_27 dX9_size_52 h (fun a12 h => ?_)
              refine rv_iload_n 2 dX9_size_55 rfl ?_
              refine rv_iload_n 3 dX9_size_56 rfl ?_
              refine rv_iload_n 4 dX9_size_57 rfl ?_
              obtain ⟨w14, h13, h⟩ := rBind h
              refine rv_callVv (k3 := 0) (n3 := 0) (st2 := []) caX0_become cvX0_become ml_X9_79 dX9_size_58 rfl (E_X0_become h13).2 (E_X0_become h13).1 rfl rfl rfl rfl rfl ?_
              clear h13
              refine rv_aload_n 1 dX9_size_61 rfl ?_
              refine rv_getR ff_X9_12 dX9_size_62 h (fun a15 h => ?_)
              refine rv_getR ff_X9_83 dX9_size_65 h (fun a16 h => ?_)
              obtain ⟨w18, h17, h⟩ := rBind h
              refine rv_callVv (k3 := 0) (n3 := 0) (st2 := []) caX5_becomeEmpty cvX5_becomeEmpty ml_X9_86 dX9_size_68 rfl (E_X5_becomeEmpty h17).2 (E_X5_becomeEmpty h17).1 rfl rfl rfl rfl rfl ?_
              clear h17
              refine rv_iload 0 dX9_size_71 rfl ?_
              exact rv_iret .int dX9_size_73 rfl rfl (rRetIw h)
            · replace h := rIfF h c6
              refine rv_bipush (v := (-2)) dX9_size_33 (by decide) ?_
              exact rv_iret .int dX9_size_35 rfl rfl (rRetIw h)
set_option maxRecDepth 20000 in
theorem E_X9_count {x0 : Nat} {x1 : Int32} {x2 : Int32} {r0 : Int32} {w0 : rW} {w : rW} (h : J_X9_count x0 x1 x2 w = some (r0, w0)) : (∃ fs, w[x0]? = some (cO 9 fs)) ∧ rMet mX9_count 1 0 0 [.ref x0, .int x1, .int x2] w (rIs (some (.int r0)) w0) := by
  unfold J_X9_count at h
  obtain ⟨hrc, h⟩ := rRc_some h
  refine ⟨hrc, ?_⟩
  refine rMet_of (by decide) rfl ?_
  refine rv_aload_n 0 dX9_count_0 rfl ?_
  refine rv_getR ff_X9_12 dX9_count_1 h (fun a1 h => ?_)
  refine rv_getR ff_X9_27 dX9_count_4 h (fun a2 h => ?_)
  refine rv_iload_n 1 dX9_count_7 rfl ?_
  obtain ⟨b4, h3, h⟩ := rBind h
  refine rv_callVr (k3 := 0) (n3 := 0) (st2 := []) caX0_has cvX0_has ml_X9_89 dX9_count_8 rfl (E_X0_has h3).2 (E_X0_has h3).1 rfl rfl rfl rfl rfl ?_
  clear h3
  refine rv_if_ne 16 dX9_count_11 (by decide) (fun c5 => ?_) (fun c5 => ?_)
  · replace h := rIfF h c5
    refine rv_iload_n 2 dX9_count_16 rfl ?_
    obtain ⟨b7, h6, h⟩ := rBind h
    refine rv_callSr (k3 := 0) (n3 := 0) (st2 := []) (As := [.int x2]) caX9_isCount csX9_isCount ml_X9_93 dX9_count_17 rfl (E_X9_isCount h6) rfl rfl rfl rfl rfl ?_
    clear h6
    refine rv_if_ne 26 dX9_count_20 (by decide) (fun c8 => ?_) (fun c8 => ?_)
    · replace h := rIfF h c8
      refine rv_aload_n 0 dX9_count_26 rfl ?_
      refine rv_getR ff_X9_12 dX9_count_27 h (fun a9 h => ?_)
      refine rv_getR ff_X9_83 dX9_count_30 h (fun a10 h => ?_)
      refine rv_getR ff_X9_96 dX9_count_33 h (fun a11 h => ?_)
      refine rv_iload_n 1 dX9_count_36 rfl ?_
      refine rv_iaload dX9_count_37 h (fun v12 h => ?_)
      refine rv_istore_n (l2 := [(3, .int v12), (0, .ref x0), (1, .int x1), (2, .int x2)]) dX9_count_38 rfl rfl ?_
      refine rv_aload_n 1 dX9_count_39 rfl ?_
      refine rv_getR ff_X9_12 dX9_count_40 h (fun a13 h => ?_)
      refine rv_getR ff_X9_83 dX9_count_43 h (fun a14 h => ?_)
      refine rv_getR ff_X9_96 dX9_count_46 h (fun a15 h => ?_)
      refine rv_iload_n 2 dX9_count_49 rfl ?_
      refine rv_iload_n 3 dX9_count_50 rfl ?_
      refine rv_iastore dX9_count_51 h (fun w16 h => ?_)
      refine rv_iload_n 0 dX9_count_52 rfl ?_
      refine rv_bipush (v := 100) dX9_count_53 (by decide) ?_
      refine rv_iadd dX9_count_55 ?_
      exact rv_iret .int dX9_count_56 rfl rfl (rRetIw h)
    · replace h := rIfT h c8
      refine rv_bipush (v := (-2)) dX9_count_23 (by decide) ?_
      exact rv_iret .int dX9_count_25 rfl rfl (rRetIw h)
  · replace h := rIfT h c5
    refine rv_iconst (v := (-1)) dX9_count_14 (by decide) ?_
    exact rv_iret .int dX9_count_15 rfl rfl (rRetIw h)
set_option maxRecDepth 20000 in
theorem E_X9_twist {x0 : Nat} {x1 : Int32} {x2 : Int32} {r0 : Int32} {w0 : rW} {w : rW} (h : J_X9_twist x0 x1 x2 w = some (r0, w0)) : (∃ fs, w[x0]? = some (cO 9 fs)) ∧ rMet mX9_twist 3 0 0 [.ref x0, .int x1, .int x2] w (rIs (some (.int r0)) w0) := by
  unfold J_X9_twist at h
  obtain ⟨hrc, h⟩ := rRc_some h
  refine ⟨hrc, ?_⟩
  refine rMet_of (by decide) rfl ?_
  refine rv_aload_n 0 dX9_twist_0 rfl ?_
  refine rv_getR ff_X9_41 dX9_twist_1 h (fun a1 h => ?_)
  refine rv_aload_n 0 dX9_twist_4 rfl ?_
  refine rv_getR ff_X9_12 dX9_twist_5 h (fun a2 h => ?_)
  refine rv_getR ff_X9_27 dX9_twist_8 h (fun a3 h => ?_)
  refine rv_iload_n 1 dX9_twist_11 rfl ?_
  obtain ⟨b5, w6, h4, h⟩ := rB2_some h
  refine rv_callVr (k3 := 0) (n3 := 0) (st2 := []) caX8_take cvX8_take ml_X9_100 dX9_twist_12 rfl (E_X8_take h4).2 (E_X8_take h4).1 rfl rfl rfl rfl rfl ?_
  clear h4
  refine rv_if_eq 34 dX9_twist_15 (by decide) (fun c7 => ?_) (fun c7 => ?_)
  · replace h := rIfT h c7
    refine rv_bipush (v := (-2)) dX9_twist_34 (by decide) ?_
    exact rv_iret .int dX9_twist_36 rfl rfl (rRetIw h)
  · replace h := rIfF h c7
    refine rv_iload_n 2 dX9_twist_18 rfl ?_
    refine rv_bipush (v := (-9)) dX9_twist_19 (by decide) ?_
    refine rv_icmp_lt 34 dX9_twist_21 (by decide) (fun c8 => ?_) (fun c8 => ?_)
    · replace h := rIfT h c8
      refine rv_bipush (v := (-2)) dX9_twist_34 (by decide) ?_
      exact rv_iret .int dX9_twist_36 rfl rfl (rRetIw h)
    · replace h := rIfF h c8
      refine rv_iload_n 2 dX9_twist_24 rfl ?_
      refine rv_bipush (v := 9) dX9_twist_25 (by decide) ?_
      refine rv_icmp_gt 34 dX9_twist_27 (by decide) (fun c9 => ?_) (fun c9 => ?_)
      · replace h := rIfT h c9
        refine rv_bipush (v := (-2)) dX9_twist_34 (by decide) ?_
        exact rv_iret .int dX9_twist_36 rfl rfl (rRetIw h)
      · replace h := rIfF h c9
        refine rv_iload_n 2 dX9_twist_30 rfl ?_
        refine rv_if_ne 37 dX9_twist_31 (by decide) (fun c10 => ?_) (fun c10 => ?_)
        · replace h := rIfF h c10
          refine rv_aload_n 0 dX9_twist_37 rfl ?_
          refine rv_getR ff_X9_12 dX9_twist_38 h (fun a11 h => ?_)
          refine rv_getR ff_X9_83 dX9_twist_41 h (fun a12 h => ?_)
          refine rv_aload_n 0 dX9_twist_44 rfl ?_
          refine rv_getR ff_X9_41 dX9_twist_45 h (fun a13 h => ?_)
          refine rv_iload_n 2 dX9_twist_48 rfl ?_
          obtain ⟨b15, w16, h14, h⟩ := rB2_some h
          refine rv_callVr (k3 := 0) (n3 := 0) (st2 := []) caX5_addTwist cvX5_addTwist ml_X9_104 dX9_twist_49 rfl (E_X5_addTwist h14).2 (E_X5_addTwist h14).1 rfl rfl rfl rfl rfl ?_
          clear h14
          refine rv_if_ne 58 dX9_twist_52 (by decide) (fun c17 => ?_) (fun c17 => ?_)
          · replace h := rIfF h c17
            refine rv_aload_n 0 dX9_twist_58 rfl ?_
            refine rv_getR ff_X9_12 dX9_twist_59 h (fun a18 h => ?_)
            refine rv_getR ff_X9_83 dX9_twist_62 h (fun a19 h => ?_)
            obtain ⟨v21, h20, h⟩ := rBind h
            refine rv_callVr (k3 := 0) (n3 := 0) (st2 := []) caX5_volume cvX5_volume ml_X9_108 dX9_twist_65 rfl (E_X5_volume h20).2 (E_X5_volume h20).1 rfl rfl rfl rfl rfl ?_
            clear h20
            exact rv_iret .int dX9_twist_68 rfl rfl (rRetIw h)
          · replace h := rIfT h c17
            refine rv_bipush (v := (-3)) dX9_twist_55 (by decide) ?_
            exact rv_iret .int dX9_twist_57 rfl rfl (rRetIw h)
        · replace h := rIfT h c10
          refine rv_bipush (v := (-2)) dX9_twist_34 (by decide) ?_
          exact rv_iret .int dX9_twist_36 rfl rfl (rRetIw h)
set_option maxRecDepth 20000 in
theorem E_X9_turn {x0 : Nat} {r0 : Int32} {w0 : rW} {w : rW} (h : J_X9_turn x0 w = some (r0, w0)) : (∃ fs, w[x0]? = some (cO 9 fs)) ∧ rMet mX9_turn 2 0 0 [.ref x0] w (rIs (some (.int r0)) w0) := by
  unfold J_X9_turn at h
  obtain ⟨hrc, h⟩ := rRc_some h
  refine ⟨hrc, ?_⟩
  refine rMet_of (by decide) rfl ?_
  refine rv_aload_n 0 dX9_turn_0 rfl ?_
  refine rv_getR ff_X9_12 dX9_turn_1 h (fun a1 h => ?_)
  refine rv_getR ff_X9_83 dX9_turn_4 h (fun a2 h => ?_)
  obtain ⟨w4, h3, h⟩ := rBind h
  refine rv_callVv (k3 := 0) (n3 := 0) (st2 := []) caX5_changeSigns cvX5_changeSigns ml_X9_111 dX9_turn_7 rfl (E_X5_changeSigns h3).2 (E_X5_changeSigns h3).1 rfl rfl rfl rfl rfl ?_
  clear h3
  refine rv_aload_n 0 dX9_turn_10 rfl ?_
  refine rv_getR ff_X9_12 dX9_turn_11 h (fun a5 h => ?_)
  refine rv_getR ff_X9_83 dX9_turn_14 h (fun a6 h => ?_)
  obtain ⟨v8, h7, h⟩ := rBind h
  refine rv_callVr (k3 := 0) (n3 := 0) (st2 := []) caX5_volume cvX5_volume ml_X9_108 dX9_turn_17 rfl (E_X5_volume h7).2 (E_X5_volume h7).1 rfl rfl rfl rfl rfl ?_
  clear h7
  exact rv_iret .int dX9_turn_20 rfl rfl (rRetIw h)
set_option maxRecDepth 20000 in
theorem E_X9_clear {x0 : Nat} {r0 : Int32} {w0 : rW} {w : rW} (h : J_X9_clear x0 w = some (r0, w0)) : (∃ fs, w[x0]? = some (cO 9 fs)) ∧ rMet mX9_clear 1 0 0 [.ref x0] w (rIs (some (.int r0)) w0) := by
  unfold J_X9_clear at h
  obtain ⟨hrc, h⟩ := rRc_some h
  refine ⟨hrc, ?_⟩
  refine rMet_of (by decide) rfl ?_
  refine rv_aload_n 0 dX9_clear_0 rfl ?_
  refine rv_getR ff_X9_12 dX9_clear_1 h (fun a1 h => ?_)
  refine rv_getR ff_X9_83 dX9_clear_4 h (fun a2 h => ?_)
  obtain ⟨v4, h3, h⟩ := rBind h
  refine rv_callVr (k3 := 0) (n3 := 0) (st2 := []) caX5_countsNotZero cvX5_countsNotZero ml_X9_114 dX9_clear_7 rfl (E_X5_countsNotZero h3).2 (E_X5_countsNotZero h3).1 rfl rfl rfl rfl rfl ?_
  clear h3
  refine rv_istore_n (l2 := [(1, .int v4), (0, .ref x0)]) dX9_clear_10 rfl rfl ?_
  refine rv_aload_n 1 dX9_clear_11 rfl ?_
  refine rv_getR ff_X9_12 dX9_clear_12 h (fun a5 h => ?_)
  refine rv_getR ff_X9_83 dX9_clear_15 h (fun a6 h => ?_)
  obtain ⟨w8, h7, h⟩ := rBind h
  refine rv_callVv (k3 := 0) (n3 := 0) (st2 := []) caX5_clearCounts cvX5_clearCounts ml_X9_117 dX9_clear_18 rfl (E_X5_clearCounts h7).2 (E_X5_clearCounts h7).1 rfl rfl rfl rfl rfl ?_
  clear h7
  refine rv_iload_n 0 dX9_clear_21 rfl ?_
  exact rv_iret .int dX9_clear_22 rfl rfl (rRetIw h)
set_option maxRecDepth 20000 in
theorem E_X9_put {x0 : Nat} {x1 : Int32} {x2 : Int32} {r0 : Int32} {w0 : rW} {w : rW} (h : J_X9_put x0 x1 x2 w = some (r0, w0)) : (∃ fs, w[x0]? = some (cO 9 fs)) ∧ rMet mX9_put 1 0 0 [.ref x0, .int x1, .int x2] w (rIs (some (.int r0)) w0) := by
  unfold J_X9_put at h
  obtain ⟨hrc, h⟩ := rRc_some h
  refine ⟨hrc, ?_⟩
  refine rMet_of (by decide) rfl ?_
  refine rv_aload_n 0 dX9_put_0 rfl ?_
  refine rv_getR ff_X9_12 dX9_put_1 h (fun a1 h => ?_)
  refine rv_getR ff_X9_27 dX9_put_4 h (fun a2 h => ?_)
  refine rv_iload_n 1 dX9_put_7 rfl ?_
  obtain ⟨b4, h3, h⟩ := rBind h
  refine rv_callVr (k3 := 0) (n3 := 0) (st2 := []) caX0_has cvX0_has ml_X9_89 dX9_put_8 rfl (E_X0_has h3).2 (E_X0_has h3).1 rfl rfl rfl rfl rfl ?_
  clear h3
  refine rv_if_ne 16 dX9_put_11 (by decide) (fun c5 => ?_) (fun c5 => ?_)
  · replace h := rIfF h c5
    refine rv_iload_n 2 dX9_put_16 rfl ?_
    obtain ⟨K28, eK28, h⟩ := rLetE h
    have hK28 : K28 = some (r0, w0) → rEv mX9_put 1 0 0 28 [(0, .ref x0), (1, .int x1), (2, .int x2)] [] w (rIs (some (.int r0)) w0) := by
      intro h
      rw [eK28] at h
      refine rv_aload_n 0 dX9_put_28 rfl ?_
      refine rv_getR ff_X9_12 dX9_put_29 h (fun a6 h => ?_)
      refine rv_getR ff_X9_83 dX9_put_32 h (fun a7 h => ?_)
      refine rv_getJ ff_X9_120 dX9_put_35 h (fun v8 h => ?_)
      refine rv_iload_n 1 dX9_put_38 rfl ?_
      obtain ⟨b10, h9, h⟩ := rBind h
      refine rv_callSr (k3 := 0) (n3 := 0) (st2 := []) (As := [.long v8, .int x1]) caX9_isIn csX9_isIn ml_X9_124 dX9_put_39 rfl (E_X9_isIn h9) rfl rfl rfl rfl rfl ?_
      clear h9
      obtain ⟨K50, eK50, h⟩ := rLetE h
      have hK50 : ∀ (z0 : Int32), K50 z0 = some (r0, w0) → rEv mX9_put 1 0 0 50 [(0, .ref x0), (1, .int x1), (2, .int x2)] [.int z0] w (rIs (some (.int r0)) w0) := by
        intro z11 h
        rw [eK50] at h
        refine rv_istore_n (l2 := [(3, .int z11), (0, .ref x0), (1, .int x1), (2, .int x2)]) dX9_put_50 rfl rfl ?_
        refine rv_iload_n 0 dX9_put_51 rfl ?_
        refine rv_iload_n 3 dX9_put_52 rfl ?_
        refine rv_icmp_eq 67 dX9_put_53 (by decide) (fun c12 => ?_) (fun c12 => ?_)
        · replace h := rIfT h c12
          refine rv_iload_n 0 dX9_put_67 rfl ?_
          exact rv_iret .int dX9_put_68 rfl rfl (rRetIw h)
        · replace h := rIfF h c12
          refine rv_aload_n 1 dX9_put_56 rfl ?_
          refine rv_getR ff_X9_12 dX9_put_57 h (fun a13 h => ?_)
          refine rv_getR ff_X9_83 dX9_put_60 h (fun a14 h => ?_)
          refine rv_iload_n 2 dX9_put_63 rfl ?_
          obtain ⟨w16, h15, h⟩ := rBind h
          refine rv_callVv (k3 := 0) (n3 := 0) (st2 := []) caX5_toggle cvX5_toggle ml_X9_128 dX9_put_64 rfl (E_X5_toggle h15).2 (E_X5_toggle h15).1 rfl rfl rfl rfl rfl ?_
          clear h15
          refine rv_iload_n 0 dX9_put_67 rfl ?_
          exact rv_iret .int dX9_put_68 rfl rfl (rRetIw h)
      clear eK50
      refine rv_if_eq 49 dX9_put_42 (by decide) (fun c17 => ?_) (fun c17 => ?_)
      · replace h := rIfT h c17
        refine rv_iconst (v := 0) dX9_put_49 (by decide) ?_
        exact rv_sub [0, 1, 2] rfl (hK50 0 h)
      · replace h := rIfF h c17
        refine rv_iconst (v := 1) dX9_put_45 (by decide) ?_
        refine rv_goto 50 dX9_put_46 (by decide) ?_
        exact rv_sub [0, 1, 2] rfl (hK50 1 h)
    clear eK28
    refine rv_if_eq 28 dX9_put_17 (by decide) (fun c18 => ?_) (fun c18 => ?_)
    · replace h := rIfT h c18
      exact rv_sub [0, 1, 2] rfl (hK28 h)
    · replace h := rIfF h c18
      refine rv_iload_n 2 dX9_put_20 rfl ?_
      refine rv_iconst (v := 1) dX9_put_21 (by decide) ?_
      refine rv_icmp_eq 28 dX9_put_22 (by decide) (fun c19 => ?_) (fun c19 => ?_)
      · replace h := rIfT h c19
        exact rv_sub [0, 1, 2] rfl (hK28 h)
      · replace h := rIfF h c19
        refine rv_bipush (v := (-2)) dX9_put_25 (by decide) ?_
        exact rv_iret .int dX9_put_27 rfl rfl (rRetIw h)
  · replace h := rIfT h c5
    refine rv_iconst (v := (-1)) dX9_put_14 (by decide) ?_
    exact rv_iret .int dX9_put_15 rfl rfl (rRetIw h)
set_option maxRecDepth 20000 in
theorem E_J13_bitCount_95d88 {x0 : Int64} {r0 : Int32} {w : rW} (h : J_J13_bitCount_95d88 x0 w = some r0) : rMet mJ13_bitCount_95d88 0 0 0 [.long x0] w (rIs (some (.int r0)) w) := by
  unfold J_J13_bitCount_95d88 at h
  refine rMet_of (by decide) rfl ?_
  refine rv_lload_n 0 dJ13_bitCount_95d88_0 rfl ?_
  refine rv_lload_n 0 dJ13_bitCount_95d88_1 rfl ?_
  refine rv_iconst (v := 1) dJ13_bitCount_95d88_2 (by decide) ?_
  refine rv_lushr dJ13_bitCount_95d88_3 ?_
  refine rv_ldc2 dJ13_bitCount_95d88_4 kl_J13_314 ?_
  refine rv_land dJ13_bitCount_95d88_7 ?_
  refine rv_lsub dJ13_bitCount_95d88_8 ?_
  refine rv_letJ h (fun v1 h => ?_)
  refine rv_lstore_n (l2 := [(0, .long v1)]) dJ13_bitCount_95d88_9 rfl rfl ?_
  refine rv_lload_n 0 dJ13_bitCount_95d88_10 rfl ?_
  refine rv_ldc2 dJ13_bitCount_95d88_11 kl_J13_316 ?_
  refine rv_land dJ13_bitCount_95d88_14 ?_
  refine rv_lload_n 0 dJ13_bitCount_95d88_15 rfl ?_
  refine rv_iconst (v := 2) dJ13_bitCount_95d88_16 (by decide) ?_
  refine rv_lushr dJ13_bitCount_95d88_17 ?_
  refine rv_ldc2 dJ13_bitCount_95d88_18 kl_J13_316 ?_
  refine rv_land dJ13_bitCount_95d88_21 ?_
  refine rv_ladd dJ13_bitCount_95d88_22 ?_
  refine rv_letJ h (fun v2 h => ?_)
  refine rv_lstore_n (l2 := [(0, .long v2)]) dJ13_bitCount_95d88_23 rfl rfl ?_
  refine rv_lload_n 0 dJ13_bitCount_95d88_24 rfl ?_
  refine rv_lload_n 0 dJ13_bitCount_95d88_25 rfl ?_
  refine rv_iconst (v := 4) dJ13_bitCount_95d88_26 (by decide) ?_
  refine rv_lushr dJ13_bitCount_95d88_27 ?_
  refine rv_ladd dJ13_bitCount_95d88_28 ?_
  refine rv_ldc2 dJ13_bitCount_95d88_29 kl_J13_318 ?_
  refine rv_land dJ13_bitCount_95d88_32 ?_
  refine rv_letJ h (fun v3 h => ?_)
  refine rv_lstore_n (l2 := [(0, .long v3)]) dJ13_bitCount_95d88_33 rfl rfl ?_
  refine rv_lload_n 0 dJ13_bitCount_95d88_34 rfl ?_
  refine rv_lload_n 0 dJ13_bitCount_95d88_35 rfl ?_
  refine rv_bipush (v := 8) dJ13_bitCount_95d88_36 (by decide) ?_
  refine rv_lushr dJ13_bitCount_95d88_38 ?_
  refine rv_ladd dJ13_bitCount_95d88_39 ?_
  refine rv_letJ h (fun v4 h => ?_)
  refine rv_lstore_n (l2 := [(0, .long v4)]) dJ13_bitCount_95d88_40 rfl rfl ?_
  refine rv_lload_n 0 dJ13_bitCount_95d88_41 rfl ?_
  refine rv_lload_n 0 dJ13_bitCount_95d88_42 rfl ?_
  refine rv_bipush (v := 16) dJ13_bitCount_95d88_43 (by decide) ?_
  refine rv_lushr dJ13_bitCount_95d88_45 ?_
  refine rv_ladd dJ13_bitCount_95d88_46 ?_
  refine rv_letJ h (fun v5 h => ?_)
  refine rv_lstore_n (l2 := [(0, .long v5)]) dJ13_bitCount_95d88_47 rfl rfl ?_
  refine rv_lload_n 0 dJ13_bitCount_95d88_48 rfl ?_
  refine rv_lload_n 0 dJ13_bitCount_95d88_49 rfl ?_
  refine rv_bipush (v := 32) dJ13_bitCount_95d88_50 (by decide) ?_
  refine rv_lushr dJ13_bitCount_95d88_52 ?_
  refine rv_ladd dJ13_bitCount_95d88_53 ?_
  refine rv_letJ h (fun v6 h => ?_)
  refine rv_lstore_n (l2 := [(0, .long v6)]) dJ13_bitCount_95d88_54 rfl rfl ?_
  refine rv_lload_n 0 dJ13_bitCount_95d88_55 rfl ?_
  refine rv_l2i dJ13_bitCount_95d88_56 ?_
  refine rv_bipush (v := 127) dJ13_bitCount_95d88_57 (by decide) ?_
  refine rv_iand dJ13_bitCount_95d88_59 ?_
  exact rv_iret .int dJ13_bitCount_95d88_60 rfl rfl (rRetIp h)
set_option maxRecDepth 20000 in
theorem E_X9_swap {x0 : Nat} {r0 : Int32} {w0 : rW} {w : rW} (h : J_X9_swap x0 w = some (r0, w0)) : (∃ fs, w[x0]? = some (cO 9 fs)) ∧ rMet mX9_swap 4 0 0 [.ref x0] w (rIs (some (.int r0)) w0) := by
  unfold J_X9_swap at h
  obtain ⟨hrc, h⟩ := rRc_some h
  refine ⟨hrc, ?_⟩
  refine rMet_of (by decide) rfl ?_
  refine rv_aload_n 0 dX9_swap_0 rfl ?_
  refine rv_getR ff_X9_12 dX9_swap_1 h (fun a1 h => ?_)
  refine rv_getR ff_X9_83 dX9_swap_4 h (fun a2 h => ?_)
  obtain ⟨b4, h3, h⟩ := rBind h
  refine rv_callVr (k3 := 0) (n3 := 0) (st2 := []) caX5_mayBeSwapped cvX5_mayBeSwapped ml_X9_132 dX9_swap_7 rfl (E_X5_mayBeSwapped h3).2 (E_X5_mayBeSwapped h3).1 rfl rfl rfl rfl rfl ?_
  clear h3
  refine rv_if_ne 16 dX9_swap_10 (by decide) (fun c5 => ?_) (fun c5 => ?_)
  · replace h := rIfF h c5
    refine rv_aload_n 0 dX9_swap_16 rfl ?_
    refine rv_getR ff_X9_12 dX9_swap_17 h (fun a6 h => ?_)
    refine rv_getR ff_X9_83 dX9_swap_20 h (fun a7 h => ?_)
    obtain ⟨w9, h8, h⟩ := rBind h
    refine rv_callVv (k3 := 0) (n3 := 0) (st2 := []) caX5_swapByRow cvX5_swapByRow ml_X9_136 dX9_swap_23 rfl (E_X5_swapByRow h8).2 (E_X5_swapByRow h8).1 rfl rfl rfl rfl rfl ?_
    clear h8
    refine rv_aload_n 0 dX9_swap_26 rfl ?_
    refine rv_getR ff_X9_12 dX9_swap_27 h (fun a10 h => ?_)
    refine rv_getR ff_X9_83 dX9_swap_30 h (fun a11 h => ?_)
    refine rv_getJ ff_X9_120 dX9_swap_33 h (fun v12 h => ?_)
    obtain ⟨v14, h13, h⟩ := rBind h
    refine rv_callSr (k3 := 0) (n3 := 0) (st2 := []) (As := [.long v12]) caJ13_bitCount_95d88 csJ13_bitCount_95d88 ml_X9_139 dX9_swap_36 rfl (E_J13_bitCount_95d88 h13) rfl rfl rfl rfl rfl ?_
    clear h13
    exact rv_iret .int dX9_swap_39 rfl rfl (rRetIw h)
  · replace h := rIfT h c5
    refine rv_bipush (v := (-3)) dX9_swap_13 (by decide) ?_
    exact rv_iret .int dX9_swap_15 rfl rfl (rRetIw h)
set_option maxRecDepth 20000 in
theorem E_X9_keep {x0 : Nat} {r0 : Int32} {w0 : rW} {w : rW} (h : J_X9_keep x0 w = some (r0, w0)) : (∃ fs, w[x0]? = some (cO 9 fs)) ∧ rMet mX9_keep 1 0 0 [.ref x0] w (rIs (some (.int r0)) w0) := by
  unfold J_X9_keep at h
  obtain ⟨hrc, h⟩ := rRc_some h
  refine ⟨hrc, ?_⟩
  refine rMet_of (by decide) rfl ?_
  refine rv_aload_n 0 dX9_keep_0 rfl ?_
  refine rv_getR ff_X9_12 dX9_keep_1 h (fun a1 h => ?_)
  refine rv_getR ff_X9_83 dX9_keep_4 h (fun a2 h => ?_)
  refine rv_aload_n 0 dX9_keep_7 rfl ?_
  refine rv_getR ff_X9_12 dX9_keep_8 h (fun a3 h => ?_)
  refine rv_getR ff_X9_83 dX9_keep_11 h (fun a4 h => ?_)
  refine rv_getJ ff_X9_120 dX9_keep_14 h (fun v5 h => ?_)
  refine rv_putJ ff_X9_143 (fp_X5_3 _) dX9_keep_17 h (fun w6 h => ?_)
  refine rv_aload_n 0 dX9_keep_20 rfl ?_
  refine rv_getR ff_X9_12 dX9_keep_21 h (fun a7 h => ?_)
  refine rv_getR ff_X9_83 dX9_keep_24 h (fun a8 h => ?_)
  refine rv_getJ ff_X9_143 dX9_keep_27 h (fun v9 h => ?_)
  obtain ⟨v11, h10, h⟩ := rBind h
  refine rv_callSr (k3 := 0) (n3 := 0) (st2 := []) (As := [.long v9]) caJ13_bitCount_95d88 csJ13_bitCount_95d88 ml_X9_139 dX9_keep_30 rfl (E_J13_bitCount_95d88 h10) rfl rfl rfl rfl rfl ?_
  clear h10
  exact rv_iret .int dX9_keep_33 rfl rfl (rRetIw h)
set_option maxRecDepth 20000 in
theorem E_X9_differ {x0 : Nat} {r0 : Int32} {w0 : rW} {w : rW} (h : J_X9_differ x0 w = some (r0, w0)) : (∃ fs, w[x0]? = some (cO 9 fs)) ∧ rMet mX9_differ 2 0 0 [.ref x0] w (rIs (some (.int r0)) w0) := by
  unfold J_X9_differ at h
  obtain ⟨hrc, h⟩ := rRc_some h
  refine ⟨hrc, ?_⟩
  refine rMet_of (by decide) rfl ?_
  refine rv_aload_n 0 dX9_differ_0 rfl ?_
  refine rv_getR ff_X9_12 dX9_differ_1 h (fun a1 h => ?_)
  refine rv_getR ff_X9_83 dX9_differ_4 h (fun a2 h => ?_)
  obtain ⟨w4, h3, h⟩ := rBind h
  refine rv_callVv (k3 := 0) (n3 := 0) (st2 := []) caX5_takeDifference cvX5_takeDifference ml_X9_146 dX9_differ_7 rfl (E_X5_takeDifference h3).2 (E_X5_takeDifference h3).1 rfl rfl rfl rfl rfl ?_
  clear h3
  refine rv_aload_n 0 dX9_differ_10 rfl ?_
  refine rv_getR ff_X9_12 dX9_differ_11 h (fun a5 h => ?_)
  refine rv_getR ff_X9_83 dX9_differ_14 h (fun a6 h => ?_)
  obtain ⟨v8, h7, h⟩ := rBind h
  refine rv_callVr (k3 := 0) (n3 := 0) (st2 := []) caX5_volume cvX5_volume ml_X9_108 dX9_differ_17 rfl (E_X5_volume h7).2 (E_X5_volume h7).1 rfl rfl rfl rfl rfl ?_
  clear h7
  exact rv_iret .int dX9_differ_20 rfl rfl (rRetIw h)

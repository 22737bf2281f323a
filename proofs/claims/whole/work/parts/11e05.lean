set_option maxRecDepth 20000 in
theorem E_X9_exchange {x0 : Nat} {x1 : Int32} {x2 : Int32} {r0 : Int32} {w0 : rW} {w : rW} (h : J_X9_exchange x0 x1 x2 w = some (r0, w0)) : (∃ fs, w[x0]? = some (cO 9 fs)) ∧ rMet mX9_exchange 2 0 0 [.ref x0, .int x1, .int x2] w (rIs (some (.int r0)) w0) := by
  unfold J_X9_exchange at h
  obtain ⟨hrc, h⟩ := rRc_some h
  refine ⟨hrc, ?_⟩
  refine rMet_of (by decide) rfl ?_
  refine rv_aload_n 0 dX9_exchange_0 rfl ?_
  refine rv_getR ff_X9_12 dX9_exchange_1 h (fun a1 h => ?_)
  refine rv_getR ff_X9_27 dX9_exchange_4 h (fun a2 h => ?_)
  refine rv_iload_n 1 dX9_exchange_7 rfl ?_
  obtain ⟨b4, h3, h⟩ := rBind h
  refine rv_callVr (k3 := 0) (n3 := 0) (st2 := []) caX0_hasPoint cvX0_hasPoint ml_X9_149 dX9_exchange_8 rfl (E_X0_hasPoint h3).2 (E_X0_hasPoint h3).1 rfl rfl rfl rfl rfl ?_
  clear h3
  refine rv_if_eq 33 dX9_exchange_11 (by decide) (fun c5 => ?_) (fun c5 => ?_)
  · replace h := rIfT h c5
    refine rv_iconst (v := (-1)) dX9_exchange_33 (by decide) ?_
    exact rv_iret .int dX9_exchange_34 rfl rfl (rRetIw h)
  · replace h := rIfF h c5
    refine rv_aload_n 0 dX9_exchange_14 rfl ?_
    refine rv_getR ff_X9_12 dX9_exchange_15 h (fun a6 h => ?_)
    refine rv_getR ff_X9_27 dX9_exchange_18 h (fun a7 h => ?_)
    refine rv_iload_n 2 dX9_exchange_21 rfl ?_
    obtain ⟨b9, h8, h⟩ := rBind h
    refine rv_callVr (k3 := 0) (n3 := 0) (st2 := []) caX0_hasPoint cvX0_hasPoint ml_X9_149 dX9_exchange_22 rfl (E_X0_hasPoint h8).2 (E_X0_hasPoint h8).1 rfl rfl rfl rfl rfl ?_
    clear h8
    refine rv_if_eq 33 dX9_exchange_25 (by decide) (fun c10 => ?_) (fun c10 => ?_)
    · replace h := rIfT h c10
      refine rv_iconst (v := (-1)) dX9_exchange_33 (by decide) ?_
      exact rv_iret .int dX9_exchange_34 rfl rfl (rRetIw h)
    · replace h := rIfF h c10
      refine rv_iload_n 1 dX9_exchange_28 rfl ?_
      refine rv_iload_n 2 dX9_exchange_29 rfl ?_
      refine rv_icmp_ne 35 dX9_exchange_30 (by decide) (fun c11 => ?_) (fun c11 => ?_)
      · replace h := rIfF h c11
        refine rv_aload_n 0 dX9_exchange_35 rfl ?_
        refine rv_getR ff_X9_12 dX9_exchange_36 h (fun a12 h => ?_)
        refine rv_getR ff_X9_83 dX9_exchange_39 h (fun a13 h => ?_)
        refine rv_iload_n 1 dX9_exchange_42 rfl ?_
        refine rv_iload_n 2 dX9_exchange_43 rfl ?_
        obtain ⟨w15, h14, h⟩ := rBind h
        refine rv_callVv (k3 := 0) (n3 := 0) (st2 := []) caX5_exchangePoints cvX5_exchangePoints ml_X9_152 dX9_exchange_44 rfl (E_X5_exchangePoints h14).2 (E_X5_exchangePoints h14).1 rfl rfl rfl rfl rfl ?_
        clear h14
        refine rv_iconst (v := 1) dX9_exchange_47 (by decide) ?_
        exact rv_iret .int dX9_exchange_48 rfl rfl (rRetIw h)
      · replace h := rIfT h c11
        refine rv_iconst (v := (-1)) dX9_exchange_33 (by decide) ?_
        exact rv_iret .int dX9_exchange_34 rfl rfl (rRetIw h)
set_option maxRecDepth 20000 in
theorem E_X9_feed {x0 : Nat} {x1 : Int32} {r0 : Int32} {w0 : rW} {w : rW} (h : J_X9_feed x0 x1 w = some (r0, w0)) : (∃ fs, w[x0]? = some (cO 9 fs)) ∧ rMet mX9_feed 1 0 0 [.ref x0, .int x1] w (rIs (some (.int r0)) w0) := by
  unfold J_X9_feed at h
  obtain ⟨hrc, h⟩ := rRc_some h
  refine ⟨hrc, ?_⟩
  refine rMet_of (by decide) rfl ?_
  refine rv_iload_n 1 dX9_feed_0 rfl ?_
  refine rv_if_lt 10 dX9_feed_1 (by decide) (fun c1 => ?_) (fun c1 => ?_)
  · replace h := rIfT h c1
    refine rv_bipush (v := (-2)) dX9_feed_10 (by decide) ?_
    exact rv_iret .int dX9_feed_12 rfl rfl (rRetIw h)
  · replace h := rIfF h c1
    refine rv_iload_n 1 dX9_feed_4 rfl ?_
    refine rv_bipush (v := 127) dX9_feed_5 (by decide) ?_
    refine rv_icmp_le 13 dX9_feed_7 (by decide) (fun c2 => ?_) (fun c2 => ?_)
    · replace h := rIfT h c2
      refine rv_aload_n 0 dX9_feed_13 rfl ?_
      refine rv_getR ff_X9_62 dX9_feed_14 h (fun a3 h => ?_)
      refine rv_iload_n 1 dX9_feed_17 rfl ?_
      obtain ⟨b5, w6, h4, h⟩ := rB2_some h
      refine rv_callVr (k3 := 0) (n3 := 0) (st2 := []) caX4_addSign cvX4_addSign ml_X9_156 dX9_feed_18 rfl (E_X4_addSign h4).2 (E_X4_addSign h4).1 rfl rfl rfl rfl rfl ?_
      clear h4
      refine rv_if_ne 27 dX9_feed_21 (by decide) (fun c7 => ?_) (fun c7 => ?_)
      · replace h := rIfF h c7
        refine rv_aload_n 0 dX9_feed_27 rfl ?_
        refine rv_getR ff_X9_62 dX9_feed_28 h (fun a8 h => ?_)
        refine rv_getI ff_X9_159 dX9_feed_31 h (fun v9 h => ?_)
        exact rv_iret .int dX9_feed_34 rfl rfl (rRetIw h)
      · replace h := rIfT h c7
        refine rv_bipush (v := (-4)) dX9_feed_24 (by decide) ?_
        exact rv_iret .int dX9_feed_26 rfl rfl (rRetIw h)
    · replace h := rIfF h c2
      refine rv_bipush (v := (-2)) dX9_feed_10 (by decide) ?_
      exact rv_iret .int dX9_feed_12 rfl rfl (rRetIw h)
set_option maxRecDepth 20000 in
theorem E_X9_doClause {x0 : Nat} {x1 : Int32} {x2 : Int32} {x3 : Int32} {x4 : Int32} {r0 : Int32} {w0 : rW} {w : rW} (h : J_X9_doClause x0 x1 x2 x3 x4 w = some (r0, w0)) : (∃ fs, w[x0]? = some (cO 9 fs)) ∧ rMet mX9_doClause 5 0 0 [.ref x0, .int x1, .int x2, .int x3, .int x4] w (rIs (some (.int r0)) w0) := by
  unfold J_X9_doClause at h
  obtain ⟨hrc, h⟩ := rRc_some h
  refine ⟨hrc, ?_⟩
  refine rMet_of (by decide) rfl ?_
  refine rv_iload_n 1 dX9_doClause_0 rfl ?_
  refine rIf h (fun c1 h => ?_) (fun c1 h => ?_)
  · refine rv_tswIn 48 dX9_doClause_1 c1 (by decide) (by decide) rfl (by decide) ?_
    refine rv_aload_n 0 dX9_doClause_48 rfl ?_
    refine rv_iload_n 2 dX9_doClause_49 rfl ?_
    refine rv_iload_n 3 dX9_doClause_50 rfl ?_
    refine rv_iload 4 dX9_doClause_51 rfl ?_
    obtain ⟨v3, w4, h2, h⟩ := rB2_some h
    refine rv_callVr (k3 := 0) (n3 := 0) (st2 := []) caX9_size cvX9_size ml_X9_180 dX9_doClause_53 rfl (E_X9_size h2).2 (E_X9_size h2).1 rfl rfl rfl rfl rfl ?_
    clear h2
    exact rv_iret .int dX9_doClause_56 rfl rfl (rRetIw h)
  refine rIf h (fun c5 h => ?_) (fun c5 h => ?_)
  · refine rv_tswIn 57 dX9_doClause_1 c5 (by decide) (by decide) rfl (by decide) ?_
    refine rv_aload_n 0 dX9_doClause_57 rfl ?_
    refine rv_iload_n 2 dX9_doClause_58 rfl ?_
    refine rv_iload_n 3 dX9_doClause_59 rfl ?_
    obtain ⟨v7, w8, h6, h⟩ := rB2_some h
    refine rv_callVr (k3 := 0) (n3 := 0) (st2 := []) caX9_count cvX9_count ml_X9_184 dX9_doClause_60 rfl (E_X9_count h6).2 (E_X9_count h6).1 rfl rfl rfl rfl rfl ?_
    clear h6
    exact rv_iret .int dX9_doClause_63 rfl rfl (rRetIw h)
  refine rIf h (fun c9 h => ?_) (fun c9 h => ?_)
  · refine rv_tswIn 64 dX9_doClause_1 c9 (by decide) (by decide) rfl (by decide) ?_
    refine rv_aload_n 0 dX9_doClause_64 rfl ?_
    refine rv_iload_n 2 dX9_doClause_65 rfl ?_
    refine rv_iload_n 3 dX9_doClause_66 rfl ?_
    obtain ⟨v11, w12, h10, h⟩ := rB2_some h
    refine rv_callVr (k3 := 0) (n3 := 0) (st2 := []) caX9_twist cvX9_twist ml_X9_187 dX9_doClause_67 rfl (E_X9_twist h10).2 (E_X9_twist h10).1 rfl rfl rfl rfl rfl ?_
    clear h10
    exact rv_iret .int dX9_doClause_70 rfl rfl (rRetIw h)
  refine rIf h (fun c13 h => ?_) (fun c13 h => ?_)
  · refine rv_tswIn 71 dX9_doClause_1 c13 (by decide) (by decide) rfl (by decide) ?_
    refine rv_aload_n 0 dX9_doClause_71 rfl ?_
    refine rv_getR ff_X9_12 dX9_doClause_72 h (fun a14 h => ?_)
    refine rv_getR ff_X9_27 dX9_doClause_75 h (fun a15 h => ?_)
    refine rv_iload_n 2 dX9_doClause_78 rfl ?_
    obtain ⟨b17, h16, h⟩ := rBind h
    refine rv_callVr (k3 := 0) (n3 := 0) (st2 := []) caX0_has cvX0_has ml_X9_89 dX9_doClause_79 rfl (E_X0_has h16).2 (E_X0_has h16).1 rfl rfl rfl rfl rfl ?_
    clear h16
    refine rv_if_ne 87 dX9_doClause_82 (by decide) (fun c18 => ?_) (fun c18 => ?_)
    · replace h := rIfF h c18
      refine rv_aload_n 0 dX9_doClause_87 rfl ?_
      refine rv_getR ff_X9_12 dX9_doClause_88 h (fun a19 h => ?_)
      refine rv_getR ff_X9_83 dX9_doClause_91 h (fun a20 h => ?_)
      refine rv_iload_n 2 dX9_doClause_94 rfl ?_
      obtain ⟨w22, h21, h⟩ := rBind h
      refine rv_callVv (k3 := 0) (n3 := 0) (st2 := []) caX5_toggle cvX5_toggle ml_X9_128 dX9_doClause_95 rfl (E_X5_toggle h21).2 (E_X5_toggle h21).1 rfl rfl rfl rfl rfl ?_
      clear h21
      refine rv_iconst (v := 0) dX9_doClause_98 (by decide) ?_
      exact rv_iret .int dX9_doClause_99 rfl rfl (rRetIw h)
    · replace h := rIfT h c18
      refine rv_iconst (v := (-1)) dX9_doClause_85 (by decide) ?_
      exact rv_iret .int dX9_doClause_86 rfl rfl (rRetIw h)
  refine rIf h (fun c23 h => ?_) (fun c23 h => ?_)
  · refine rv_tswIn 100 dX9_doClause_1 c23 (by decide) (by decide) rfl (by decide) ?_
    refine rv_aload_n 0 dX9_doClause_100 rfl ?_
    obtain ⟨v25, w26, h24, h⟩ := rB2_some h
    refine rv_callVr (k3 := 0) (n3 := 0) (st2 := []) caX9_turn cvX9_turn ml_X9_190 dX9_doClause_101 rfl (E_X9_turn h24).2 (E_X9_turn h24).1 rfl rfl rfl rfl rfl ?_
    clear h24
    exact rv_iret .int dX9_doClause_104 rfl rfl (rRetIw h)
  refine rIf h (fun c27 h => ?_) (fun c27 h => ?_)
  · refine rv_tswIn 105 dX9_doClause_1 c27 (by decide) (by decide) rfl (by decide) ?_
    refine rv_aload_n 0 dX9_doClause_105 rfl ?_
    obtain ⟨v29, w30, h28, h⟩ := rB2_some h
    refine rv_callVr (k3 := 0) (n3 := 0) (st2 := []) caX9_swap cvX9_swap ml_X9_193 dX9_doClause_106 rfl (E_X9_swap h28).2 (E_X9_swap h28).1 rfl rfl rfl rfl rfl ?_
    clear h28
    exact rv_iret .int dX9_doClause_109 rfl rfl (rRetIw h)
  refine rIf h (fun c31 h => ?_) (fun c31 h => ?_)
  · refine rv_tswIn 110 dX9_doClause_1 c31 (by decide) (by decide) rfl (by decide) ?_
    refine rv_aload_n 0 dX9_doClause_110 rfl ?_
    obtain ⟨v33, w34, h32, h⟩ := rB2_some h
    refine rv_callVr (k3 := 0) (n3 := 0) (st2 := []) caX9_keep cvX9_keep ml_X9_196 dX9_doClause_111 rfl (E_X9_keep h32).2 (E_X9_keep h32).1 rfl rfl rfl rfl rfl ?_
    clear h32
    exact rv_iret .int dX9_doClause_114 rfl rfl (rRetIw h)
  refine rIf h (fun c35 h => ?_) (fun c35 h => ?_)
  · refine rv_tswIn 115 dX9_doClause_1 c35 (by decide) (by decide) rfl (by decide) ?_
    refine rv_aload_n 0 dX9_doClause_115 rfl ?_
    obtain ⟨v37, w38, h36, h⟩ := rB2_some h
    refine rv_callVr (k3 := 0) (n3 := 0) (st2 := []) caX9_differ cvX9_differ ml_X9_199 dX9_doClause_116 rfl (E_X9_differ h36).2 (E_X9_differ h36).1 rfl rfl rfl rfl rfl ?_
    clear h36
    exact rv_iret .int dX9_doClause_119 rfl rfl (rRetIw h)
  refine rv_tswOut 120 [0, 1, 2, 3, 4, 5, 6, 7] dX9_doClause_1 (by decide) (by decide) (by decide) (fun v hv => ?_) ?_
  · simp only [List.mem_cons, List.not_mem_nil, or_false] at hv
    rcases hv with rfl | rfl | rfl | rfl | rfl | rfl | rfl | rfl
    · exact c1
    · exact c5
    · exact c9
    · exact c13
    · exact c23
    · exact c27
    · exact c31
    · exact c35
  refine rv_iconst (v := (-1)) dX9_doClause_120 (by decide) ?_
  exact rv_iret .int dX9_doClause_121 rfl rfl (rRetIw h)
set_option maxRecDepth 20000 in
theorem E_X9_read_29 {r0 : Int32} {w0 : rW}  (x0 : Nat)   : ∀ (f : Nat) (x2 : Int32) (x3 : Int32) (w : rW), J_X9_read_29 x0 f x2 x3 w = some (r0, w0) → rEv mX9_read 8 0 0 29 [(0, .ref x0), (2, .int x2), (3, .int x3)] [] w (rIs (some (.int r0)) w0) := by
  intro f
  induction f with
  | zero =>
    intro x2 x3 w h
    exact absurd (show (none : Option (Int32 × rW)) = some (r0, w0) from h) (by simp)
  | succ f ih =>
    intro x2 x3 w h
    rw [J_X9_read_29] at h
    refine rv_iload_n 2 dX9_read_29 rfl ?_
    refine rv_aload_n 0 dX9_read_30 rfl ?_
    refine rv_getR ff_X9_62 dX9_read_31 h (fun a8 h => ?_)
    refine rv_getI ff_X9_166 dX9_read_34 h (fun v9 h => ?_)
    refine rv_icmp_ge 96 dX9_read_37 (by decide) (fun c10 => ?_) (fun c10 => ?_)
    · replace h := rIfT h c10
      refine rv_iload_n 1 dX9_read_96 rfl ?_
      exact rv_iret .int dX9_read_97 rfl rfl (rRetIw h)
    · replace h := rIfF h c10
      refine rv_aload_n 0 dX9_read_40 rfl ?_
      refine rv_aload_n 0 dX9_read_41 rfl ?_
      refine rv_getR ff_X9_62 dX9_read_42 h (fun a11 h => ?_)
      refine rv_getR ff_X9_169 dX9_read_45 h (fun a12 h => ?_)
      refine rv_iload_n 2 dX9_read_48 rfl ?_
      refine rv_iaload dX9_read_49 h (fun v13 h => ?_)
      refine rv_aload_n 0 dX9_read_50 rfl ?_
      refine rv_getR ff_X9_62 dX9_read_51 h (fun a14 h => ?_)
      refine rv_iload_n 2 dX9_read_54 rfl ?_
      refine rv_iconst (v := 0) dX9_read_55 (by decide) ?_
      obtain ⟨v16, h15, h⟩ := rBind h
      refine rv_callVr (k3 := 0) (n3 := 0) (st2 := [.int v13, .ref x0]) caX4_numberOf cvX4_numberOf ml_X9_172 dX9_read_56 rfl (E_X4_numberOf h15).2 (E_X4_numberOf h15).1 rfl rfl rfl rfl rfl ?_
      clear h15
      refine rv_aload_n 0 dX9_read_59 rfl ?_
      refine rv_getR ff_X9_62 dX9_read_60 h (fun a17 h => ?_)
      refine rv_iload_n 2 dX9_read_63 rfl ?_
      refine rv_iconst (v := 1) dX9_read_64 (by decide) ?_
      obtain ⟨v19, h18, h⟩ := rBind h
      refine rv_callVr (k3 := 0) (n3 := 0) (st2 := [.int v16, .int v13, .ref x0]) caX4_numberOf cvX4_numberOf ml_X9_172 dX9_read_65 rfl (E_X4_numberOf h18).2 (E_X4_numberOf h18).1 rfl rfl rfl rfl rfl ?_
      clear h18
      refine rv_aload_n 0 dX9_read_68 rfl ?_
      refine rv_getR ff_X9_62 dX9_read_69 h (fun a20 h => ?_)
      refine rv_iload_n 2 dX9_read_72 rfl ?_
      refine rv_iconst (v := 2) dX9_read_73 (by decide) ?_
      obtain ⟨v22, h21, h⟩ := rBind h
      refine rv_callVr (k3 := 0) (n3 := 0) (st2 := [.int v19, .int v16, .int v13, .ref x0]) caX4_numberOf cvX4_numberOf ml_X9_172 dX9_read_74 rfl (E_X4_numberOf h21).2 (E_X4_numberOf h21).1 rfl rfl rfl rfl rfl ?_
      clear h21
      obtain ⟨v24, w25, h23, h⟩ := rB2_some h
      refine rv_callVr (k3 := 0) (n3 := 0) (st2 := []) caX9_doClause cvX9_doClause ml_X9_176 dX9_read_77 rfl (E_X9_doClause h23).2 (E_X9_doClause h23).1 rfl rfl rfl rfl rfl ?_
      clear h23
      refine rv_istore (l2 := [(4, .int v24), (0, .ref x0), (2, .int x2), (3, .int x3)]) dX9_read_80 rfl rfl ?_
      refine rv_iload 0 dX9_read_82 rfl ?_
      obtain ⟨K90, eK90, h⟩ := rLetE h
      have hK90 : ∀ (y2 : Int32), K90 y2 = some (r0, w0) → rEv mX9_read 8 0 0 90 [(0, .ref x0), (2, .int y2), (3, .int x3)] [] w25 (rIs (some (.int r0)) w0) := by
        intro x2_26 h
        rw [eK90] at h
        obtain ⟨v27, ev27, h⟩ := rLetE h
        refine rv_iinc (v := v27) (l2 := [(3, .int v27), (0, .ref x0), (2, .int x2_26)]) 2 dX9_read_90 rfl (by rw [ev27]; rfl) rfl rfl ?_
        clear ev27
        refine rv_goto 29 dX9_read_93 (by decide) ?_
        exact rv_sub [1, 2, 0] rfl (ih x2_26 v27 w25 h)
      clear eK90
      refine rv_if_lt 90 dX9_read_84 (by decide) (fun c28 => ?_) (fun c28 => ?_)
      · replace h := rIfT h c28
        exact rv_sub [1, 2, 3] rfl (hK90 x2 h)
      · replace h := rIfF h c28
        obtain ⟨v29, ev29, h⟩ := rLetE h
        refine rv_iinc (v := v29) (l2 := [(2, .int v29), (4, .int v24), (0, .ref x0), (3, .int x3)]) 2 dX9_read_87 rfl (by rw [ev29]; rfl) rfl rfl ?_
        clear ev29
        exact rv_sub [2, 0, 3] rfl (hK90 v29 h)
set_option maxRecDepth 20000 in
theorem E_X9_read {x0 : Nat} {r0 : Int32} {w0 : rW} {w : rW} (h : J_X9_read x0 w = some (r0, w0)) : (∃ fs, w[x0]? = some (cO 9 fs)) ∧ rMet mX9_read 8 0 0 [.ref x0] w (rIs (some (.int r0)) w0) := by
  unfold J_X9_read at h
  obtain ⟨hrc, h⟩ := rRc_some h
  refine ⟨hrc, ?_⟩
  refine rMet_of (by decide) rfl ?_
  refine rv_aload_n 0 dX9_read_0 rfl ?_
  refine rv_getR ff_X9_62 dX9_read_1 h (fun a1 h => ?_)
  obtain ⟨v3, w4, h2, h⟩ := rB2_some h
  refine rv_callVr (k3 := 0) (n3 := 0) (st2 := []) caX4_parse cvX4_parse ml_X9_163 dX9_read_4 rfl (E_X4_parse h2).2 (E_X4_parse h2).1 rfl rfl rfl rfl rfl ?_
  clear h2
  refine rv_istore_n (l2 := [(1, .int v3), (0, .ref x0)]) dX9_read_7 rfl rfl ?_
  refine rv_aload_n 1 dX9_read_8 rfl ?_
  refine rv_getR ff_X9_62 dX9_read_9 h (fun a5 h => ?_)
  refine rv_iconst (v := 0) dX9_read_12 (by decide) ?_
  refine rv_putI ff_X9_159 (fp_X4_1 _) dX9_read_13 h (fun w6 h => ?_)
  refine rv_iload_n 0 dX9_read_16 rfl ?_
  refine rv_if_lt 25 dX9_read_17 (by decide) (fun c7 => ?_) (fun c7 => ?_)
  · replace h := rIfT h c7
    refine rv_iconst (v := 0) dX9_read_25 (by decide) ?_
    refine rv_istore_n (l2 := [(2, .int 0), (1, .int v3), (0, .ref x0)]) dX9_read_26 rfl rfl ?_
    refine rv_iconst (v := 0) dX9_read_27 (by decide) ?_
    refine rv_istore_n (l2 := [(3, .int 0), (2, .int 0), (1, .int v3), (0, .ref x0)]) dX9_read_28 rfl rfl ?_
    exact rv_sub [3, 1, 0] rfl (E_X9_read_29 x0 2000 0 0 w6 h)
  · replace h := rIfF h c7
    refine rv_bipush (v := (-10)) dX9_read_20 (by decide) ?_
    refine rv_iload_n 0 dX9_read_22 rfl ?_
    refine rv_isub dX9_read_23 ?_
    exact rv_iret .int dX9_read_24 rfl rfl (rRetIw h)
set_option maxRecDepth 20000 in
theorem E_X9_told {x0 : Nat} {x1 : Int32} {r0 : Int32} {w : rW} (h : J_X9_told x0 x1 w = some r0) : (∃ fs, w[x0]? = some (cO 9 fs)) ∧ rMet mX9_told 3 0 0 [.ref x0, .int x1] w (rIs (some (.int r0)) w) := by
  unfold J_X9_told at h
  obtain ⟨hrc, h⟩ := rRc_some h
  refine ⟨hrc, ?_⟩
  refine rMet_of (by decide) rfl ?_
  refine rv_iload_n 1 dX9_told_0 rfl ?_
  refine rIf h (fun c1 h => ?_) (fun c1 h => ?_)
  · refine rv_tswIn 56 dX9_told_1 c1 (by decide) (by decide) rfl (by decide) ?_
    refine rv_aload_n 0 dX9_told_56 rfl ?_
    refine rv_getR ff_X9_12 dX9_told_57 h (fun a2 h => ?_)
    refine rv_getR ff_X9_27 dX9_told_60 h (fun a3 h => ?_)
    refine rv_getI ff_X9_202 dX9_told_63 h (fun v4 h => ?_)
    exact rv_iret .int dX9_told_66 rfl rfl (rRetIp h)
  refine rIf h (fun c5 h => ?_) (fun c5 h => ?_)
  · refine rv_tswIn 67 dX9_told_1 c5 (by decide) (by decide) rfl (by decide) ?_
    refine rv_aload_n 0 dX9_told_67 rfl ?_
    refine rv_getR ff_X9_12 dX9_told_68 h (fun a6 h => ?_)
    refine rv_getR ff_X9_83 dX9_told_71 h (fun a7 h => ?_)
    obtain ⟨v9, h8, h⟩ := rBind h
    refine rv_callVr (k3 := 0) (n3 := 0) (st2 := []) caX5_volume cvX5_volume ml_X9_108 dX9_told_74 rfl (E_X5_volume h8).2 (E_X5_volume h8).1 rfl rfl rfl rfl rfl ?_
    clear h8
    exact rv_iret .int dX9_told_77 rfl rfl (rRetIp h)
  refine rIf h (fun c10 h => ?_) (fun c10 h => ?_)
  · refine rv_tswIn 78 dX9_told_1 c10 (by decide) (by decide) rfl (by decide) ?_
    refine rv_aload_n 0 dX9_told_78 rfl ?_
    refine rv_getR ff_X9_12 dX9_told_79 h (fun a11 h => ?_)
    refine rv_getR ff_X9_83 dX9_told_82 h (fun a12 h => ?_)
    obtain ⟨v14, h13, h⟩ := rBind h
    refine rv_callVr (k3 := 0) (n3 := 0) (st2 := []) caX5_foundation cvX5_foundation ml_X9_205 dX9_told_85 rfl (E_X5_foundation h13).2 (E_X5_foundation h13).1 rfl rfl rfl rfl rfl ?_
    clear h13
    exact rv_iret .int dX9_told_88 rfl rfl (rRetIp h)
  refine rIf h (fun c15 h => ?_) (fun c15 h => ?_)
  · refine rv_tswIn 89 dX9_told_1 c15 (by decide) (by decide) rfl (by decide) ?_
    refine rv_aload_n 0 dX9_told_89 rfl ?_
    refine rv_getR ff_X9_12 dX9_told_90 h (fun a16 h => ?_)
    refine rv_getR ff_X9_83 dX9_told_93 h (fun a17 h => ?_)
    obtain ⟨b19, h18, h⟩ := rBind h
    refine rv_callVr (k3 := 0) (n3 := 0) (st2 := []) caX5_isPlain cvX5_isPlain ml_X9_208 dX9_told_96 rfl (E_X5_isPlain h18).2 (E_X5_isPlain h18).1 rfl rfl rfl rfl rfl ?_
    clear h18
    refine rv_if_eq 106 dX9_told_99 (by decide) (fun c20 => ?_) (fun c20 => ?_)
    · replace h := rIfT h c20
      refine rv_iconst (v := 0) dX9_told_106 (by decide) ?_
      exact rv_iret .int dX9_told_107 rfl rfl (rRetIp h)
    · replace h := rIfF h c20
      refine rv_iconst (v := 1) dX9_told_102 (by decide) ?_
      refine rv_goto 107 dX9_told_103 (by decide) ?_
      exact rv_iret .int dX9_told_107 rfl rfl (rRetIp h)
  refine rIf h (fun c21 h => ?_) (fun c21 h => ?_)
  · refine rv_tswIn 108 dX9_told_1 c21 (by decide) (by decide) rfl (by decide) ?_
    refine rv_aload_n 0 dX9_told_108 rfl ?_
    refine rv_getR ff_X9_12 dX9_told_109 h (fun a22 h => ?_)
    refine rv_getR ff_X9_83 dX9_told_112 h (fun a23 h => ?_)
    obtain ⟨b25, h24, h⟩ := rBind h
    refine rv_callVr (k3 := 0) (n3 := 0) (st2 := []) caX5_isTrade cvX5_isTrade ml_X9_211 dX9_told_115 rfl (E_X5_isTrade h24).2 (E_X5_isTrade h24).1 rfl rfl rfl rfl rfl ?_
    clear h24
    refine rv_if_eq 125 dX9_told_118 (by decide) (fun c26 => ?_) (fun c26 => ?_)
    · replace h := rIfT h c26
      refine rv_iconst (v := 0) dX9_told_125 (by decide) ?_
      exact rv_iret .int dX9_told_126 rfl rfl (rRetIp h)
    · replace h := rIfF h c26
      refine rv_iconst (v := 1) dX9_told_121 (by decide) ?_
      refine rv_goto 126 dX9_told_122 (by decide) ?_
      exact rv_iret .int dX9_told_126 rfl rfl (rRetIp h)
  refine rIf h (fun c27 h => ?_) (fun c27 h => ?_)
  · refine rv_tswIn 127 dX9_told_1 c27 (by decide) (by decide) rfl (by decide) ?_
    refine rv_aload_n 0 dX9_told_127 rfl ?_
    refine rv_getR ff_X9_12 dX9_told_128 h (fun a28 h => ?_)
    refine rv_getR ff_X9_83 dX9_told_131 h (fun a29 h => ?_)
    refine rv_getJ ff_X9_120 dX9_told_134 h (fun v30 h => ?_)
    obtain ⟨v32, h31, h⟩ := rBind h
    refine rv_callSr (k3 := 0) (n3 := 0) (st2 := []) (As := [.long v30]) caJ13_bitCount_95d88 csJ13_bitCount_95d88 ml_X9_139 dX9_told_137 rfl (E_J13_bitCount_95d88 h31) rfl rfl rfl rfl rfl ?_
    clear h31
    exact rv_iret .int dX9_told_140 rfl rfl (rRetIp h)
  refine rIf h (fun c33 h => ?_) (fun c33 h => ?_)
  · refine rv_tswIn 141 dX9_told_1 c33 (by decide) (by decide) rfl (by decide) ?_
    refine rv_aload_n 0 dX9_told_141 rfl ?_
    refine rv_getR ff_X9_12 dX9_told_142 h (fun a34 h => ?_)
    refine rv_getR ff_X9_83 dX9_told_145 h (fun a35 h => ?_)
    obtain ⟨v37, h36, h⟩ := rBind h
    refine rv_callVr (k3 := 0) (n3 := 0) (st2 := []) caX5_index cvX5_index ml_X9_214 dX9_told_148 rfl (E_X5_index h36).2 (E_X5_index h36).1 rfl rfl rfl rfl rfl ?_
    clear h36
    exact rv_iret .int dX9_told_151 rfl rfl (rRetIp h)
  refine rIf h (fun c38 h => ?_) (fun c38 h => ?_)
  · refine rv_tswIn 152 dX9_told_1 c38 (by decide) (by decide) rfl (by decide) ?_
    refine rv_aload_n 0 dX9_told_152 rfl ?_
    refine rv_getR ff_X9_12 dX9_told_153 h (fun a39 h => ?_)
    refine rv_getR ff_X9_83 dX9_told_156 h (fun a40 h => ?_)
    refine rv_getJ ff_X9_143 dX9_told_159 h (fun v41 h => ?_)
    obtain ⟨v43, h42, h⟩ := rBind h
    refine rv_callSr (k3 := 0) (n3 := 0) (st2 := []) (As := [.long v41]) caJ13_bitCount_95d88 csJ13_bitCount_95d88 ml_X9_139 dX9_told_162 rfl (E_J13_bitCount_95d88 h42) rfl rfl rfl rfl rfl ?_
    clear h42
    exact rv_iret .int dX9_told_165 rfl rfl (rRetIp h)
  refine rIf h (fun c44 h => ?_) (fun c44 h => ?_)
  · refine rv_tswIn 166 dX9_told_1 c44 (by decide) (by decide) rfl (by decide) ?_
    refine rv_iconst (v := 1) dX9_told_166 (by decide) ?_
    refine rv_aload_n 0 dX9_told_167 rfl ?_
    refine rv_getR ff_X9_12 dX9_told_168 h (fun a45 h => ?_)
    refine rv_getR ff_X9_27 dX9_told_171 h (fun a46 h => ?_)
    refine rv_getI ff_X9_217 dX9_told_174 h (fun v47 h => ?_)
    refine rv_ishl dX9_told_177 ?_
    exact rv_iret .int dX9_told_178 rfl rfl (rRetIp h)
  refine rIf h (fun c48 h => ?_) (fun c48 h => ?_)
  · refine rv_tswIn 179 dX9_told_1 c48 (by decide) (by decide) rfl (by decide) ?_
    refine rv_aload_n 0 dX9_told_179 rfl ?_
    refine rv_getR ff_X9_12 dX9_told_180 h (fun a49 h => ?_)
    refine rv_getR ff_X9_27 dX9_told_183 h (fun a50 h => ?_)
    obtain ⟨v52, h51, h⟩ := rBind h
    refine rv_callVr (k3 := 0) (n3 := 0) (st2 := []) caX0_sizes cvX0_sizes ml_X9_73 dX9_told_186 rfl (E_X0_sizes h51).2 (E_X0_sizes h51).1 rfl rfl rfl rfl rfl ?_
    clear h51
    exact rv_iret .int dX9_told_189 rfl rfl (rRetIp h)
  refine rv_tswOut 190 [0, 1, 2, 3, 4, 5, 6, 7, 8, 9] dX9_told_1 (by decide) (by decide) (by decide) (fun v hv => ?_) ?_
  · simp only [List.mem_cons, List.not_mem_nil, or_false] at hv
    rcases hv with rfl | rfl | rfl | rfl | rfl | rfl | rfl | rfl | rfl | rfl
    · exact c1
    · exact c5
    · exact c10
    · exact c15
    · exact c21
    · exact c27
    · exact c33
    · exact c38
    · exact c44
    · exact c48
  refine rv_iconst (v := (-1)) dX9_told_190 (by decide) ?_
  exact rv_iret .int dX9_told_191 rfl rfl (rRetIp h)
set_option maxRecDepth 20000 in
theorem E_X9_block {x0 : Nat} {x1 : Int32} {r0 : Int32} {w : rW} (h : J_X9_block x0 x1 w = some r0) : (∃ fs, w[x0]? = some (cO 9 fs)) ∧ rMet mX9_block 1 0 0 [.ref x0, .int x1] w (rIs (some (.int r0)) w) := by
  unfold J_X9_block at h
  obtain ⟨hrc, h⟩ := rRc_some h
  refine ⟨hrc, ?_⟩
  refine rMet_of (by decide) rfl ?_
  refine rv_aload_n 0 dX9_block_0 rfl ?_
  refine rv_getR ff_X9_12 dX9_block_1 h (fun a1 h => ?_)
  refine rv_getR ff_X9_27 dX9_block_4 h (fun a2 h => ?_)
  refine rv_iload_n 1 dX9_block_7 rfl ?_
  obtain ⟨b4, h3, h⟩ := rBind h
  refine rv_callVr (k3 := 0) (n3 := 0) (st2 := []) caX0_has cvX0_has ml_X9_89 dX9_block_8 rfl (E_X0_has h3).2 (E_X0_has h3).1 rfl rfl rfl rfl rfl ?_
  clear h3
  refine rv_if_eq 29 dX9_block_11 (by decide) (fun c5 => ?_) (fun c5 => ?_)
  · replace h := rIfT h c5
    refine rv_iconst (v := (-1)) dX9_block_29 (by decide) ?_
    exact rv_iret .int dX9_block_30 rfl rfl (rRetIp h)
  · replace h := rIfF h c5
    refine rv_aload_n 0 dX9_block_14 rfl ?_
    refine rv_getR ff_X9_12 dX9_block_15 h (fun a6 h => ?_)
    refine rv_getR ff_X9_27 dX9_block_18 h (fun a7 h => ?_)
    refine rv_getR ff_X9_220 dX9_block_21 h (fun a8 h => ?_)
    refine rv_iload_n 1 dX9_block_24 rfl ?_
    refine rv_iaload dX9_block_25 h (fun v9 h => ?_)
    refine rv_goto 30 dX9_block_26 (by decide) ?_
    exact rv_iret .int dX9_block_30 rfl rfl (rRetIp h)
set_option maxRecDepth 20000 in
theorem E_X9_number {x0 : Nat} {x1 : Int32} {r0 : Int32} {w : rW} (h : J_X9_number x0 x1 w = some r0) : (∃ fs, w[x0]? = some (cO 9 fs)) ∧ rMet mX9_number 2 0 0 [.ref x0, .int x1] w (rIs (some (.int r0)) w) := by
  unfold J_X9_number at h
  obtain ⟨hrc, h⟩ := rRc_some h
  refine ⟨hrc, ?_⟩
  refine rMet_of (by decide) rfl ?_
  refine rv_aload_n 0 dX9_number_0 rfl ?_
  refine rv_getR ff_X9_12 dX9_number_1 h (fun a1 h => ?_)
  refine rv_getR ff_X9_27 dX9_number_4 h (fun a2 h => ?_)
  refine rv_iload_n 1 dX9_number_7 rfl ?_
  refine rv_bipush (v := 8) dX9_number_8 (by decide) ?_
  obtain ⟨b4, h3, h⟩ := rBind h
  refine rv_callVr (k3 := 0) (n3 := 0) (st2 := []) caX0_isSet cvX0_isSet ml_X9_223 dX9_number_10 rfl (E_X0_isSet h3).2 (E_X0_isSet h3).1 rfl rfl rfl rfl rfl ?_
  clear h3
  refine rv_if_eq 30 dX9_number_13 (by decide) (fun c5 => ?_) (fun c5 => ?_)
  · replace h := rIfT h c5
    refine rv_iconst (v := (-1)) dX9_number_30 (by decide) ?_
    exact rv_iret .int dX9_number_31 rfl rfl (rRetIp h)
  · replace h := rIfF h c5
    refine rv_aload_n 0 dX9_number_16 rfl ?_
    refine rv_getR ff_X9_12 dX9_number_17 h (fun a6 h => ?_)
    refine rv_getR ff_X9_27 dX9_number_20 h (fun a7 h => ?_)
    refine rv_iload_n 1 dX9_number_23 rfl ?_
    obtain ⟨v9, h8, h⟩ := rBind h
    refine rv_callVr (k3 := 0) (n3 := 0) (st2 := []) caX0_numberOf cvX0_numberOf ml_X9_227 dX9_number_24 rfl (E_X0_numberOf h8).2 (E_X0_numberOf h8).1 rfl rfl rfl rfl rfl ?_
    clear h8
    refine rv_goto 31 dX9_number_27 (by decide) ?_
    exact rv_iret .int dX9_number_31 rfl rfl (rRetIp h)
set_option maxRecDepth 20000 in
theorem E_X9_of {x0 : Nat} {x1 : Int32} {x2 : Int32} {r0 : Int32} {w : rW} (h : J_X9_of x0 x1 x2 w = some r0) : (∃ fs, w[x0]? = some (cO 9 fs)) ∧ rMet mX9_of 1 0 0 [.ref x0, .int x1, .int x2] w (rIs (some (.int r0)) w) := by
  unfold J_X9_of at h
  obtain ⟨hrc, h⟩ := rRc_some h
  refine ⟨hrc, ?_⟩
  refine rMet_of (by decide) rfl ?_
  refine rv_aload_n 0 dX9_of_0 rfl ?_
  refine rv_getR ff_X9_12 dX9_of_1 h (fun a1 h => ?_)
  refine rv_getR ff_X9_27 dX9_of_4 h (fun a2 h => ?_)
  refine rv_iload_n 1 dX9_of_7 rfl ?_
  obtain ⟨b4, h3, h⟩ := rBind h
  refine rv_callVr (k3 := 0) (n3 := 0) (st2 := []) caX0_has cvX0_has ml_X9_89 dX9_of_8 rfl (E_X0_has h3).2 (E_X0_has h3).1 rfl rfl rfl rfl rfl ?_
  clear h3
  refine rv_if_ne 16 dX9_of_11 (by decide) (fun c5 => ?_) (fun c5 => ?_)
  · replace h := rIfF h c5
    refine rv_iload_n 2 dX9_of_16 rfl ?_
    refine rIf h (fun c6 h => ?_) (fun c6 h => ?_)
    · refine rv_tswIn 44 dX9_of_17 c6 (by decide) (by decide) rfl (by decide) ?_
      refine rv_aload_n 0 dX9_of_44 rfl ?_
      refine rv_getR ff_X9_12 dX9_of_45 h (fun a7 h => ?_)
      refine rv_getR ff_X9_83 dX9_of_48 h (fun a8 h => ?_)
      refine rv_getR ff_X9_96 dX9_of_51 h (fun a9 h => ?_)
      refine rv_iload_n 1 dX9_of_54 rfl ?_
      refine rv_iaload dX9_of_55 h (fun v10 h => ?_)
      refine rv_bipush (v := 100) dX9_of_56 (by decide) ?_
      refine rv_iadd dX9_of_58 ?_
      exact rv_iret .int dX9_of_59 rfl rfl (rRetIp h)
    refine rIf h (fun c11 h => ?_) (fun c11 h => ?_)
    · refine rv_tswIn 60 dX9_of_17 c11 (by decide) (by decide) rfl (by decide) ?_
      refine rv_aload_n 0 dX9_of_60 rfl ?_
      refine rv_getR ff_X9_12 dX9_of_61 h (fun a12 h => ?_)
      refine rv_getR ff_X9_83 dX9_of_64 h (fun a13 h => ?_)
      refine rv_getJ ff_X9_120 dX9_of_67 h (fun v14 h => ?_)
      refine rv_iload_n 1 dX9_of_70 rfl ?_
      obtain ⟨b16, h15, h⟩ := rBind h
      refine rv_callSr (k3 := 0) (n3 := 0) (st2 := []) (As := [.long v14, .int x1]) caX9_isIn csX9_isIn ml_X9_124 dX9_of_71 rfl (E_X9_isIn h15) rfl rfl rfl rfl rfl ?_
      clear h15
      refine rv_if_eq 81 dX9_of_74 (by decide) (fun c17 => ?_) (fun c17 => ?_)
      · replace h := rIfT h c17
        refine rv_iconst (v := 0) dX9_of_81 (by decide) ?_
        exact rv_iret .int dX9_of_82 rfl rfl (rRetIp h)
      · replace h := rIfF h c17
        refine rv_iconst (v := 1) dX9_of_77 (by decide) ?_
        refine rv_goto 82 dX9_of_78 (by decide) ?_
        exact rv_iret .int dX9_of_82 rfl rfl (rRetIp h)
    refine rIf h (fun c18 h => ?_) (fun c18 h => ?_)
    · refine rv_tswIn 83 dX9_of_17 c18 (by decide) (by decide) rfl (by decide) ?_
      refine rv_aload_n 0 dX9_of_83 rfl ?_
      refine rv_getR ff_X9_12 dX9_of_84 h (fun a19 h => ?_)
      refine rv_getR ff_X9_83 dX9_of_87 h (fun a20 h => ?_)
      refine rv_getJ ff_X9_143 dX9_of_90 h (fun v21 h => ?_)
      refine rv_iload_n 1 dX9_of_93 rfl ?_
      obtain ⟨b23, h22, h⟩ := rBind h
      refine rv_callSr (k3 := 0) (n3 := 0) (st2 := []) (As := [.long v21, .int x1]) caX9_isIn csX9_isIn ml_X9_124 dX9_of_94 rfl (E_X9_isIn h22) rfl rfl rfl rfl rfl ?_
      clear h22
      refine rv_if_eq 104 dX9_of_97 (by decide) (fun c24 => ?_) (fun c24 => ?_)
      · replace h := rIfT h c24
        refine rv_iconst (v := 0) dX9_of_104 (by decide) ?_
        exact rv_iret .int dX9_of_105 rfl rfl (rRetIp h)
      · replace h := rIfF h c24
        refine rv_iconst (v := 1) dX9_of_100 (by decide) ?_
        refine rv_goto 105 dX9_of_101 (by decide) ?_
        exact rv_iret .int dX9_of_105 rfl rfl (rRetIp h)
    refine rv_tswOut 106 [0, 1, 2] dX9_of_17 (by decide) (by decide) (by decide) (fun v hv => ?_) ?_
    · simp only [List.mem_cons, List.not_mem_nil, or_false] at hv
      rcases hv with rfl | rfl | rfl
      · exact c6
      · exact c11
      · exact c18
    refine rv_iconst (v := (-1)) dX9_of_106 (by decide) ?_
    exact rv_iret .int dX9_of_107 rfl rfl (rRetIp h)
  · replace h := rIfT h c5
    refine rv_iconst (v := (-1)) dX9_of_14 (by decide) ?_
    exact rv_iret .int dX9_of_15 rfl rfl (rRetIp h)
set_option maxRecDepth 20000 in
theorem E_X9_sum {x0 : Nat} {x1 : Int32} {r0 : Int32} {w : rW} (h : J_X9_sum x0 x1 w = some r0) : (∃ fs, w[x0]? = some (cO 9 fs)) ∧ rMet mX9_sum 2 0 0 [.ref x0, .int x1] w (rIs (some (.int r0)) w) := by
  unfold J_X9_sum at h
  obtain ⟨hrc, h⟩ := rRc_some h
  refine ⟨hrc, ?_⟩
  refine rMet_of (by decide) rfl ?_
  refine rv_aload_n 0 dX9_sum_0 rfl ?_
  refine rv_getR ff_X9_12 dX9_sum_1 h (fun a1 h => ?_)
  refine rv_getR ff_X9_27 dX9_sum_4 h (fun a2 h => ?_)
  refine rv_iload_n 1 dX9_sum_7 rfl ?_
  refine rv_aload_n 0 dX9_sum_8 rfl ?_
  refine rv_getR ff_X9_12 dX9_sum_9 h (fun a3 h => ?_)
  refine rv_getR ff_X9_27 dX9_sum_12 h (fun a4 h => ?_)
  refine rv_getI ff_X9_230 dX9_sum_15 h (fun v5 h => ?_)
  obtain ⟨b7, h6, h⟩ := rBind h
  refine rv_callVr (k3 := 0) (n3 := 0) (st2 := []) caX0_isSet cvX0_isSet ml_X9_223 dX9_sum_18 rfl (E_X0_isSet h6).2 (E_X0_isSet h6).1 rfl rfl rfl rfl rfl ?_
  clear h6
  refine rv_if_eq 42 dX9_sum_21 (by decide) (fun c8 => ?_) (fun c8 => ?_)
  · replace h := rIfT h c8
    refine rv_iconst (v := (-1)) dX9_sum_42 (by decide) ?_
    exact rv_iret .int dX9_sum_43 rfl rfl (rRetIp h)
  · replace h := rIfF h c8
    refine rv_aload_n 0 dX9_sum_24 rfl ?_
    refine rv_getR ff_X9_12 dX9_sum_25 h (fun a9 h => ?_)
    refine rv_getR ff_X9_83 dX9_sum_28 h (fun a10 h => ?_)
    refine rv_iload_n 1 dX9_sum_31 rfl ?_
    obtain ⟨v12, h11, h⟩ := rBind h
    refine rv_callVr (k3 := 0) (n3 := 0) (st2 := []) caX5_sumOf cvX5_sumOf ml_X9_233 dX9_sum_32 rfl (E_X5_sumOf h11).2 (E_X5_sumOf h11).1 rfl rfl rfl rfl rfl ?_
    clear h11
    refine rv_sipush (v := 10000) dX9_sum_35 (by decide) ?_
    refine rv_iadd dX9_sum_38 ?_
    refine rv_goto 43 dX9_sum_39 (by decide) ?_
    exact rv_iret .int dX9_sum_43 rfl rfl (rRetIp h)
set_option maxRecDepth 20000 in
theorem E_X9_amiss {x0 : Nat} {r0 : Int32} {w : rW} (h : J_X9_amiss x0 w = some r0) : (∃ fs, w[x0]? = some (cO 9 fs)) ∧ rMet mX9_amiss 2 0 0 [.ref x0] w (rIs (some (.int r0)) w) := by
  unfold J_X9_amiss at h
  obtain ⟨hrc, h⟩ := rRc_some h
  refine ⟨hrc, ?_⟩
  refine rMet_of (by decide) rfl ?_
  refine rv_aload_n 0 dX9_amiss_0 rfl ?_
  refine rv_getR ff_X9_12 dX9_amiss_1 h (fun a1 h => ?_)
  refine rv_getR ff_X9_83 dX9_amiss_4 h (fun a2 h => ?_)
  refine rv_iconst (v := 0) dX9_amiss_7 (by decide) ?_
  refine rv_aload_n 0 dX9_amiss_8 rfl ?_
  refine rv_getR ff_X9_12 dX9_amiss_9 h (fun a3 h => ?_)
  refine rv_getR ff_X9_27 dX9_amiss_12 h (fun a4 h => ?_)
  refine rv_getI ff_X9_217 dX9_amiss_15 h (fun v5 h => ?_)
  obtain ⟨v7, h6, h⟩ := rBind h
  refine rv_callVr (k3 := 0) (n3 := 0) (st2 := []) caX5_firstAmiss cvX5_firstAmiss ml_X9_236 dX9_amiss_18 rfl (E_X5_firstAmiss h6).2 (E_X5_firstAmiss h6).1 rfl rfl rfl rfl rfl ?_
  clear h6
  exact rv_iret .int dX9_amiss_21 rfl rfl (rRetIp h)
set_option maxRecDepth 20000 in
theorem E_X9_cover {x0 : Nat} {x1 : Int32} {r0 : Int32} {w : rW} (h : J_X9_cover x0 x1 w = some r0) : (∃ fs, w[x0]? = some (cO 9 fs)) ∧ rMet mX9_cover 2 0 0 [.ref x0, .int x1] w (rIs (some (.int r0)) w) := by
  unfold J_X9_cover at h
  obtain ⟨hrc, h⟩ := rRc_some h
  refine ⟨hrc, ?_⟩
  refine rMet_of (by decide) rfl ?_
  refine rv_aload_n 0 dX9_cover_0 rfl ?_
  refine rv_getR ff_X9_12 dX9_cover_1 h (fun a1 h => ?_)
  refine rv_getR ff_X9_27 dX9_cover_4 h (fun a2 h => ?_)
  refine rv_iload_n 1 dX9_cover_7 rfl ?_
  refine rv_aload_n 0 dX9_cover_8 rfl ?_
  refine rv_getR ff_X9_12 dX9_cover_9 h (fun a3 h => ?_)
  refine rv_getR ff_X9_27 dX9_cover_12 h (fun a4 h => ?_)
  refine rv_getI ff_X9_230 dX9_cover_15 h (fun v5 h => ?_)
  obtain ⟨b7, h6, h⟩ := rBind h
  refine rv_callVr (k3 := 0) (n3 := 0) (st2 := []) caX0_isSet cvX0_isSet ml_X9_223 dX9_cover_18 rfl (E_X0_isSet h6).2 (E_X0_isSet h6).1 rfl rfl rfl rfl rfl ?_
  clear h6
  refine rv_if_eq 38 dX9_cover_21 (by decide) (fun c8 => ?_) (fun c8 => ?_)
  · replace h := rIfT h c8
    refine rv_iconst (v := (-1)) dX9_cover_38 (by decide) ?_
    exact rv_iret .int dX9_cover_39 rfl rfl (rRetIp h)
  · replace h := rIfF h c8
    refine rv_aload_n 0 dX9_cover_24 rfl ?_
    refine rv_getR ff_X9_12 dX9_cover_25 h (fun a9 h => ?_)
    refine rv_getR ff_X9_83 dX9_cover_28 h (fun a10 h => ?_)
    refine rv_iload_n 1 dX9_cover_31 rfl ?_
    obtain ⟨v12, h11, h⟩ := rBind h
    refine rv_callVr (k3 := 0) (n3 := 0) (st2 := []) caX5_coverOf cvX5_coverOf ml_X9_239 dX9_cover_32 rfl (E_X5_coverOf h11).2 (E_X5_coverOf h11).1 rfl rfl rfl rfl rfl ?_
    clear h11
    refine rv_goto 39 dX9_cover_35 (by decide) ?_
    exact rv_iret .int dX9_cover_39 rfl rfl (rRetIp h)
set_option maxRecDepth 20000 in
theorem E_X9_written {x0 : Nat} {x1 : Int32} {r0 : Int32} {w : rW} (h : J_X9_written x0 x1 w = some r0) : (∃ fs, w[x0]? = some (cO 9 fs)) ∧ rMet mX9_written 4 0 0 [.ref x0, .int x1] w (rIs (some (.int r0)) w) := by
  unfold J_X9_written at h
  obtain ⟨hrc, h⟩ := rRc_some h
  refine ⟨hrc, ?_⟩
  refine rMet_of (by decide) rfl ?_
  refine rv_iload_n 1 dX9_written_0 rfl ?_
  refine rv_if_ge 8 dX9_written_1 (by decide) (fun c1 => ?_) (fun c1 => ?_)
  · replace h := rIfT h c1
    refine rv_aload_n 0 dX9_written_8 rfl ?_
    refine rv_getR ff_X9_12 dX9_written_9 h (fun a2 h => ?_)
    refine rv_getR ff_X9_83 dX9_written_12 h (fun a3 h => ?_)
    refine rv_iload_n 1 dX9_written_15 rfl ?_
    obtain ⟨v5, h4, h⟩ := rBind h
    refine rv_callVr (k3 := 0) (n3 := 0) (st2 := []) caX5_signWritten cvX5_signWritten ml_X9_242 dX9_written_16 rfl (E_X5_signWritten h4).2 (E_X5_signWritten h4).1 rfl rfl rfl rfl rfl ?_
    clear h4
    exact rv_iret .int dX9_written_19 rfl rfl (rRetIp h)
  · replace h := rIfF h c1
    refine rv_iconst (v := (-1)) dX9_written_4 (by decide) ?_
    refine rv_goto 19 dX9_written_5 (by decide) ?_
    exact rv_iret .int dX9_written_19 rfl rfl (rRetIp h)
set_option maxRecDepth 20000 in
theorem E_X9_open {x0 : Nat} {x1 : Int32} {r0 : Int32} {w0 : rW} {w : rW} (h : J_X9_open x0 x1 w = some (r0, w0)) : (∃ fs, w[x0]? = some (cO 9 fs)) ∧ rMet mX9_open 45 0 0 [.ref x0, .int x1] w (rIs (some (.int r0)) w0) := by
  unfold J_X9_open at h
  obtain ⟨hrc, h⟩ := rRc_some h
  refine ⟨hrc, ?_⟩
  refine rMet_of (by decide) rfl ?_
  refine rv_iload_n 1 dX9_open_0 rfl ?_
  refine rv_if_lt 9 dX9_open_1 (by decide) (fun c1 => ?_) (fun c1 => ?_)
  · replace h := rIfT h c1
    refine rv_iconst (v := (-1)) dX9_open_9 (by decide) ?_
    exact rv_iret .int dX9_open_10 rfl rfl (rRetIw h)
  · replace h := rIfF h c1
    refine rv_iload_n 1 dX9_open_4 rfl ?_
    refine rv_iconst (v := 2) dX9_open_5 (by decide) ?_
    refine rv_icmp_le 11 dX9_open_6 (by decide) (fun c2 => ?_) (fun c2 => ?_)
    · replace h := rIfT h c2
      refine rv_aload_n 0 dX9_open_11 rfl ?_
      refine rv_getR ff_X9_48 dX9_open_12 h (fun a3 h => ?_)
      refine rv_aload_n 0 dX9_open_15 rfl ?_
      refine rv_getR ff_X9_12 dX9_open_16 h (fun a4 h => ?_)
      refine rv_getR ff_X9_83 dX9_open_19 h (fun a5 h => ?_)
      obtain ⟨w7, h6, h⟩ := rBind h
      refine rv_callVv (k3 := 0) (n3 := 0) (st2 := []) caX1_look cvX1_look ml_X9_245 dX9_open_22 rfl (E_X1_look h6).2 (E_X1_look h6).1 rfl rfl rfl rfl rfl ?_
      clear h6
      refine rv_iload_n 1 dX9_open_25 rfl ?_
      refine rv_if_ne 37 dX9_open_26 (by decide) (fun c8 => ?_) (fun c8 => ?_)
      · replace h := rIfF h c8
        refine rv_aload_n 0 dX9_open_37 rfl ?_
        refine rv_getR ff_X9_48 dX9_open_38 h (fun a9 h => ?_)
        refine rv_getI ff_X9_249 dX9_open_41 h (fun v10 h => ?_)
        refine rv_if_ne 50 dX9_open_44 (by decide) (fun c11 => ?_) (fun c11 => ?_)
        · replace h := rIfF h c11
          refine rv_iload_n 1 dX9_open_50 rfl ?_
          refine rv_iconst (v := 1) dX9_open_51 (by decide) ?_
          refine rv_icmp_ne 65 dX9_open_52 (by decide) (fun c12 => ?_) (fun c12 => ?_)
          · replace h := rIfF h c12
            refine rv_aload_n 0 dX9_open_65 rfl ?_
            refine rv_getR ff_X9_48 dX9_open_66 h (fun a13 h => ?_)
            refine rv_getI ff_X9_255 dX9_open_69 h (fun v14 h => ?_)
            refine rv_iconst (v := 1) dX9_open_72 (by decide) ?_
            refine rv_iadd dX9_open_73 ?_
            exact rv_iret .int dX9_open_74 rfl rfl (rRetIw h)
          · replace h := rIfT h c12
            refine rv_aload_n 0 dX9_open_55 rfl ?_
            refine rv_getR ff_X9_48 dX9_open_56 h (fun a15 h => ?_)
            refine rv_getI ff_X9_252 dX9_open_59 h (fun v16 h => ?_)
            refine rv_goto 74 dX9_open_62 (by decide) ?_
            exact rv_iret .int dX9_open_74 rfl rfl (rRetIw h)
        · replace h := rIfT h c11
          refine rv_bipush (v := (-5)) dX9_open_47 (by decide) ?_
          exact rv_iret .int dX9_open_49 rfl rfl (rRetIw h)
      · replace h := rIfT h c8
        refine rv_aload_n 0 dX9_open_29 rfl ?_
        refine rv_getR ff_X9_48 dX9_open_30 h (fun a17 h => ?_)
        refine rv_getI ff_X9_249 dX9_open_33 h (fun v18 h => ?_)
        exact rv_iret .int dX9_open_36 rfl rfl (rRetIw h)
    · replace h := rIfF h c2
      refine rv_iconst (v := (-1)) dX9_open_9 (by decide) ?_
      exact rv_iret .int dX9_open_10 rfl rfl (rRetIw h)
set_option maxRecDepth 20000 in
theorem E_X9_parted {x0 : Nat} {x1 : Int32} {r0 : Int32} {w0 : rW} {w : rW} (h : J_X9_parted x0 x1 w = some (r0, w0)) : (∃ fs, w[x0]? = some (cO 9 fs)) ∧ rMet mX9_parted 44 0 0 [.ref x0, .int x1] w (rIs (some (.int r0)) w0) := by
  unfold J_X9_parted at h
  obtain ⟨hrc, h⟩ := rRc_some h
  refine ⟨hrc, ?_⟩
  refine rMet_of (by decide) rfl ?_
  refine rv_iload_n 1 dX9_parted_0 rfl ?_
  obtain ⟨b2, h1, h⟩ := rBind h
  refine rv_callSr (k3 := 0) (n3 := 0) (st2 := []) (As := [.int x1]) caX2_isParts csX2_isParts ml_X9_258 dX9_parted_1 rfl (E_X2_isParts h1) rfl rfl rfl rfl rfl ?_
  clear h1
  refine rv_if_ne 10 dX9_parted_4 (by decide) (fun c3 => ?_) (fun c3 => ?_)
  · replace h := rIfF h c3
    refine rv_aload_n 0 dX9_parted_10 rfl ?_
    refine rv_getR ff_X9_12 dX9_parted_11 h (fun a4 h => ?_)
    refine rv_getR ff_X9_27 dX9_parted_14 h (fun a5 h => ?_)
    obtain ⟨b7, h6, h⟩ := rBind h
    refine rv_callSr (k3 := 0) (n3 := 0) (st2 := []) (As := [.ref a5]) caX2_isLookedFor csX2_isLookedFor ml_X9_261 dX9_parted_17 rfl (E_X2_isLookedFor h6) rfl rfl rfl rfl rfl ?_
    clear h6
    refine rv_if_ne 26 dX9_parted_20 (by decide) (fun c8 => ?_) (fun c8 => ?_)
    · replace h := rIfF h c8
      refine rv_aload_n 0 dX9_parted_26 rfl ?_
      refine rv_getR ff_X9_55 dX9_parted_27 h (fun a9 h => ?_)
      refine rv_aload_n 0 dX9_parted_30 rfl ?_
      refine rv_getR ff_X9_12 dX9_parted_31 h (fun a10 h => ?_)
      refine rv_getR ff_X9_27 dX9_parted_34 h (fun a11 h => ?_)
      refine rv_iload_n 1 dX9_parted_37 rfl ?_
      obtain ⟨w13, h12, h⟩ := rBind h
      refine rv_callVv (k3 := 0) (n3 := 0) (st2 := []) caX2_look cvX2_look ml_X9_265 dX9_parted_38 rfl (E_X2_look h12).2 (E_X2_look h12).1 rfl rfl rfl rfl rfl ?_
      clear h12
      refine rv_aload_n 0 dX9_parted_41 rfl ?_
      refine rv_getR ff_X9_55 dX9_parted_42 h (fun a14 h => ?_)
      refine rv_getI ff_X9_268 dX9_parted_45 h (fun v15 h => ?_)
      exact rv_iret .int dX9_parted_48 rfl rfl (rRetIw h)
    · replace h := rIfT h c8
      refine rv_bipush (v := (-3)) dX9_parted_23 (by decide) ?_
      exact rv_iret .int dX9_parted_25 rfl rfl (rRetIw h)
  · replace h := rIfT h c3
    refine rv_bipush (v := (-2)) dX9_parted_7 (by decide) ?_
    exact rv_iret .int dX9_parted_9 rfl rfl (rRetIw h)
set_option maxRecDepth 20000 in
theorem E_X9_part {x0 : Nat} {x1 : Int32} {x2 : Int32} {r0 : Int32} {w0 : rW} {w : rW} (h : J_X9_part x0 x1 x2 w = some (r0, w0)) : (∃ fs, w[x0]? = some (cO 9 fs)) ∧ rMet mX9_part 45 0 0 [.ref x0, .int x1, .int x2] w (rIs (some (.int r0)) w0) := by
  unfold J_X9_part at h
  obtain ⟨hrc, h⟩ := rRc_some h
  refine ⟨hrc, ?_⟩
  refine rMet_of (by decide) rfl ?_
  refine rv_aload_n 0 dX9_part_0 rfl ?_
  refine rv_getR ff_X9_12 dX9_part_1 h (fun a1 h => ?_)
  refine rv_getR ff_X9_27 dX9_part_4 h (fun a2 h => ?_)
  refine rv_iload_n 2 dX9_part_7 rfl ?_
  obtain ⟨b4, h3, h⟩ := rBind h
  refine rv_callVr (k3 := 0) (n3 := 0) (st2 := []) caX0_has cvX0_has ml_X9_89 dX9_part_8 rfl (E_X0_has h3).2 (E_X0_has h3).1 rfl rfl rfl rfl rfl ?_
  clear h3
  refine rv_if_ne 16 dX9_part_11 (by decide) (fun c5 => ?_) (fun c5 => ?_)
  · replace h := rIfF h c5
    refine rv_aload_n 0 dX9_part_16 rfl ?_
    refine rv_iload_n 1 dX9_part_17 rfl ?_
    obtain ⟨v7, w8, h6, h⟩ := rB2_some h
    refine rv_callVr (k3 := 0) (n3 := 0) (st2 := []) caX9_parted cvX9_parted ml_X9_271 dX9_part_18 rfl (E_X9_parted h6).2 (E_X9_parted h6).1 rfl rfl rfl rfl rfl ?_
    clear h6
    refine rv_istore_n (l2 := [(3, .int v7), (0, .ref x0), (1, .int x1), (2, .int x2)]) dX9_part_21 rfl rfl ?_
    refine rv_iload_n 0 dX9_part_22 rfl ?_
    refine rv_if_ge 28 dX9_part_23 (by decide) (fun c9 => ?_) (fun c9 => ?_)
    · replace h := rIfT h c9
      refine rv_iload_n 0 dX9_part_28 rfl ?_
      refine rv_if_ne 37 dX9_part_29 (by decide) (fun c10 => ?_) (fun c10 => ?_)
      · replace h := rIfF h c10
        refine rv_aload_n 1 dX9_part_37 rfl ?_
        refine rv_getR ff_X9_55 dX9_part_38 h (fun a11 h => ?_)
        refine rv_iload_n 3 dX9_part_41 rfl ?_
        obtain ⟨v13, h12, h⟩ := rBind h
        refine rv_callVr (k3 := 0) (n3 := 0) (st2 := []) caX2_firstOf cvX2_firstOf ml_X9_274 dX9_part_42 rfl (E_X2_firstOf h12).2 (E_X2_firstOf h12).1 rfl rfl rfl rfl rfl ?_
        clear h12
        exact rv_iret .int dX9_part_45 rfl rfl (rRetIw h)
      · replace h := rIfT h c10
        refine rv_bipush (v := (-5)) dX9_part_32 (by decide) ?_
        refine rv_goto 45 dX9_part_34 (by decide) ?_
        exact rv_iret .int dX9_part_45 rfl rfl (rRetIw h)
    · replace h := rIfF h c9
      refine rv_iload_n 0 dX9_part_26 rfl ?_
      exact rv_iret .int dX9_part_27 rfl rfl (rRetIw h)
  · replace h := rIfT h c5
    refine rv_iconst (v := (-1)) dX9_part_14 (by decide) ?_
    exact rv_iret .int dX9_part_15 rfl rfl (rRetIw h)
set_option maxRecDepth 20000 in
theorem E_X9_see {x0 : Nat} {x1 : Int32} {x2 : Int32} {r0 : Int32} {w0 : rW} {w : rW} (h : J_X9_see x0 x1 x2 w = some (r0, w0)) : (∃ fs, w[x0]? = some (cO 9 fs)) ∧ rMet mX9_see 2 0 0 [.ref x0, .int x1, .int x2] w (rIs (some (.int r0)) w0) := by
  unfold J_X9_see at h
  obtain ⟨hrc, h⟩ := rRc_some h
  refine ⟨hrc, ?_⟩
  refine rMet_of (by decide) rfl ?_
  refine rv_iload_n 1 dX9_see_0 rfl ?_
  refine rv_iconst (v := (-1)) dX9_see_1 (by decide) ?_
  refine rv_icmp_ne 16 dX9_see_2 (by decide) (fun c1 => ?_) (fun c1 => ?_)
  · replace h := rIfF h c1
    refine rv_aload_n 0 dX9_see_16 rfl ?_
    refine rv_getR ff_X9_12 dX9_see_17 h (fun a2 h => ?_)
    refine rv_getR ff_X9_27 dX9_see_20 h (fun a3 h => ?_)
    refine rv_iload_n 1 dX9_see_23 rfl ?_
    refine rv_aload_n 0 dX9_see_24 rfl ?_
    refine rv_getR ff_X9_12 dX9_see_25 h (fun a4 h => ?_)
    refine rv_getR ff_X9_27 dX9_see_28 h (fun a5 h => ?_)
    refine rv_getI ff_X9_217 dX9_see_31 h (fun v6 h => ?_)
    obtain ⟨b8, h7, h⟩ := rBind h
    refine rv_callVr (k3 := 0) (n3 := 0) (st2 := []) caX0_isSet cvX0_isSet ml_X9_223 dX9_see_34 rfl (E_X0_isSet h7).2 (E_X0_isSet h7).1 rfl rfl rfl rfl rfl ?_
    clear h7
    refine rv_if_ne 42 dX9_see_37 (by decide) (fun c9 => ?_) (fun c9 => ?_)
    · replace h := rIfF h c9
      refine rv_iload_n 2 dX9_see_42 rfl ?_
      refine rv_sipush (v := (-999)) dX9_see_43 (by decide) ?_
      refine rv_icmp_lt 56 dX9_see_46 (by decide) (fun c10 => ?_) (fun c10 => ?_)
      · replace h := rIfT h c10
        refine rv_bipush (v := (-2)) dX9_see_56 (by decide) ?_
        exact rv_iret .int dX9_see_58 rfl rfl (rRetIw h)
      · replace h := rIfF h c10
        refine rv_iload_n 2 dX9_see_49 rfl ?_
        refine rv_sipush (v := 999) dX9_see_50 (by decide) ?_
        refine rv_icmp_le 59 dX9_see_53 (by decide) (fun c11 => ?_) (fun c11 => ?_)
        · replace h := rIfT h c11
          refine rv_aload_n 0 dX9_see_59 rfl ?_
          refine rv_getR ff_X9_12 dX9_see_60 h (fun a12 h => ?_)
          refine rv_getR ff_X9_277 dX9_see_63 h (fun a13 h => ?_)
          refine rv_iload_n 1 dX9_see_66 rfl ?_
          refine rv_iload_n 2 dX9_see_67 rfl ?_
          obtain ⟨v15, w16, h14, h⟩ := rB2_some h
          refine rv_callVr (k3 := 0) (n3 := 0) (st2 := []) caX3_addRow cvX3_addRow ml_X9_285 dX9_see_68 rfl (E_X3_addRow h14).2 (E_X3_addRow h14).1 rfl rfl rfl rfl rfl ?_
          clear h14
          exact rv_iret .int dX9_see_71 rfl rfl (rRetIw h)
        · replace h := rIfF h c11
          refine rv_bipush (v := (-2)) dX9_see_56 (by decide) ?_
          exact rv_iret .int dX9_see_58 rfl rfl (rRetIw h)
    · replace h := rIfT h c9
      refine rv_iconst (v := (-1)) dX9_see_40 (by decide) ?_
      exact rv_iret .int dX9_see_41 rfl rfl (rRetIw h)
  · replace h := rIfT h c1
    refine rv_aload_n 0 dX9_see_5 rfl ?_
    refine rv_getR ff_X9_12 dX9_see_6 h (fun a17 h => ?_)
    refine rv_getR ff_X9_277 dX9_see_9 h (fun a18 h => ?_)
    obtain ⟨v20, w21, h19, h⟩ := rB2_some h
    refine rv_callVr (k3 := 0) (n3 := 0) (st2 := []) caX3_becomeEmpty cvX3_becomeEmpty ml_X9_281 dX9_see_12 rfl (E_X3_becomeEmpty h19).2 (E_X3_becomeEmpty h19).1 rfl rfl rfl rfl rfl ?_
    clear h19
    exact rv_iret .int dX9_see_15 rfl rfl (rRetIw h)
set_option maxRecDepth 20000 in
theorem E_X9_fits_35 {r0 : Int32}  (x0 : Nat) (x1 : Int32) (x2 : Int32) (w : rW)  {K185 : Int32 → Int32 → Option Int32} (hK185 : ∀ (y3 : Int32) (y4 : Int32), K185 y3 y4 = some r0 → rEv mX9_fits 2 0 0 185 [(2, .int x2), (3, .int y3), (4, .int y4)] [] w (rIs (some (.int r0)) w)) : ∀ (f : Nat) (x3 : Int32) (x4 : Int32) (x5 : Int32), J_X9_fits_35 x0 x1 w K185 f x3 x4 x5 = some r0 → rEv mX9_fits 2 0 0 35 [(0, .ref x0), (1, .int x1), (2, .int x2), (3, .int x3), (4, .int x4), (5, .int x5)] [] w (rIs (some (.int r0)) w) := by
  intro f
  induction f with
  | zero =>
    intro x3 x4 x5 h
    exact absurd (show (none : Option Int32) = some r0 from h) (by simp)
  | succ f ih =>
    intro x3 x4 x5 h
    rw [J_X9_fits_35] at h
    refine rv_iload 5 dX9_fits_35 rfl ?_
    refine rv_aload_n 0 dX9_fits_37 rfl ?_
    refine rv_getR ff_X9_12 dX9_fits_38 h (fun a12 h => ?_)
    refine rv_getR ff_X9_277 dX9_fits_41 h (fun a13 h => ?_)
    refine rv_getI ff_X9_288 dX9_fits_44 h (fun v14 h => ?_)
    refine rv_icmp_ge 185 dX9_fits_47 (by decide) (fun c15 => ?_) (fun c15 => ?_)
    · replace h := rIfT h c15
      exact rv_sub [2, 3, 4] rfl (hK185 x3 x4 h)
    · replace h := rIfF h c15
      refine rv_aload_n 0 dX9_fits_50 rfl ?_
      refine rv_getR ff_X9_12 dX9_fits_51 h (fun a16 h => ?_)
      refine rv_getR ff_X9_277 dX9_fits_54 h (fun a17 h => ?_)
      refine rv_getR ff_X9_289 dX9_fits_57 h (fun a18 h => ?_)
      refine rv_iload 5 dX9_fits_60 rfl ?_
      refine rv_iaload dX9_fits_62 h (fun v19 h => ?_)
      refine rv_istore (l2 := [(6, .int v19), (0, .ref x0), (1, .int x1), (2, .int x2), (3, .int x3), (4, .int x4), (5, .int x5)]) dX9_fits_63 rfl rfl ?_
      refine rv_aload_n 1 dX9_fits_65 rfl ?_
      refine rv_getR ff_X9_12 dX9_fits_66 h (fun a20 h => ?_)
      refine rv_getR ff_X9_27 dX9_fits_69 h (fun a21 h => ?_)
      refine rv_iload 0 dX9_fits_72 rfl ?_
      refine rv_aload_n 1 dX9_fits_74 rfl ?_
      refine rv_getR ff_X9_12 dX9_fits_75 h (fun a22 h => ?_)
      refine rv_getR ff_X9_27 dX9_fits_78 h (fun a23 h => ?_)
      refine rv_getI ff_X9_217 dX9_fits_81 h (fun v24 h => ?_)
      obtain ⟨b26, h25, h⟩ := rBind h
      refine rv_callVr (k3 := 0) (n3 := 0) (st2 := []) caX0_isSet cvX0_isSet ml_X9_223 dX9_fits_84 rfl (E_X0_isSet h25).2 (E_X0_isSet h25).1 rfl rfl rfl rfl rfl ?_
      clear h25
      refine rv_if_ne 92 dX9_fits_87 (by decide) (fun c27 => ?_) (fun c27 => ?_)
      · replace h := rIfF h c27
        refine rv_aload_n 1 dX9_fits_92 rfl ?_
        refine rv_getR ff_X9_12 dX9_fits_93 h (fun a28 h => ?_)
        refine rv_getR ff_X9_277 dX9_fits_96 h (fun a29 h => ?_)
        refine rv_getR ff_X9_292 dX9_fits_99 h (fun a30 h => ?_)
        refine rv_iload 6 dX9_fits_102 rfl ?_
        refine rv_iaload dX9_fits_104 h (fun v31 h => ?_)
        refine rv_aload_n 1 dX9_fits_105 rfl ?_
        refine rv_getR ff_X9_12 dX9_fits_106 h (fun a32 h => ?_)
        refine rv_getR ff_X9_83 dX9_fits_109 h (fun a33 h => ?_)
        refine rv_iload 0 dX9_fits_112 rfl ?_
        obtain ⟨v35, h34, h⟩ := rBind h
        refine rv_callVr (k3 := 0) (n3 := 0) (st2 := [.int v31]) caX5_sumOf cvX5_sumOf ml_X9_233 dX9_fits_114 rfl (E_X5_sumOf h34).2 (E_X5_sumOf h34).1 rfl rfl rfl rfl rfl ?_
        clear h34
        refine rv_isub dX9_fits_117 ?_
        refine rv_letI h (fun v36 h => ?_)
        refine rv_istore (l2 := [(7, .int v36), (6, .int v19), (0, .ref x0), (1, .int x1), (2, .int x2), (3, .int x3), (4, .int x4), (5, .int x5)]) dX9_fits_118 rfl rfl ?_
        refine rv_aload_n 2 dX9_fits_120 rfl ?_
        refine rv_getR ff_X9_12 dX9_fits_121 h (fun a37 h => ?_)
        refine rv_getR ff_X9_27 dX9_fits_124 h (fun a38 h => ?_)
        refine rv_iload_n 3 dX9_fits_127 rfl ?_
        refine rv_iload 1 dX9_fits_128 rfl ?_
        obtain ⟨b40, h39, h⟩ := rBind h
        refine rv_callVr (k3 := 0) (n3 := 0) (st2 := []) caX0_holds cvX0_holds ml_X9_295 dX9_fits_130 rfl (E_X0_holds h39).2 (E_X0_holds h39).1 rfl rfl rfl rfl rfl ?_
        clear h39
        obtain ⟨K179, eK179, h⟩ := rLetE h
        have hK179 : ∀ (y3 : Int32) (y4 : Int32), K179 y3 y4 = some r0 → rEv mX9_fits 2 0 0 179 [(0, .ref x0), (1, .int x1), (2, .int x2), (3, .int y3), (4, .int y4), (5, .int x5)] [] w (rIs (some (.int r0)) w) := by
          intro x3_41 x4_42 h
          rw [eK179] at h
          obtain ⟨v43, ev43, h⟩ := rLetE h
          refine rv_iinc (v := v43) (l2 := [(5, .int v43), (0, .ref x0), (1, .int x1), (2, .int x2), (3, .int x3_41), (4, .int x4_42)]) 5 dX9_fits_179 rfl (by rw [ev43]; rfl) rfl rfl ?_
          clear ev43
          refine rv_goto 35 dX9_fits_182 (by decide) ?_
          exact rv_sub [1, 2, 3, 4, 5, 0] rfl (ih x3_41 x4_42 v43 h)
        clear eK179
        refine rv_if_eq 172 dX9_fits_133 (by decide) (fun c44 => ?_) (fun c44 => ?_)
        · replace h := rIfT h c44
          refine rv_iload 0 dX9_fits_172 rfl ?_
          refine rv_if_eq 179 dX9_fits_174 (by decide) (fun c45 => ?_) (fun c45 => ?_)
          · replace h := rIfT h c45
            exact rv_sub [2, 3, 4, 5, 6, 7] rfl (hK179 x3 x4 h)
          · replace h := rIfF h c45
            refine rv_iconst (v := 0) dX9_fits_177 (by decide) ?_
            exact rv_iret .int dX9_fits_178 rfl rfl (rRetIp h)
        · replace h := rIfF h c44
          refine rv_aload_n 2 dX9_fits_136 rfl ?_
          refine rv_getR ff_X9_12 dX9_fits_137 h (fun a46 h => ?_)
          refine rv_getR ff_X9_83 dX9_fits_140 h (fun a47 h => ?_)
          refine rv_getR ff_X9_96 dX9_fits_143 h (fun a48 h => ?_)
          refine rv_iload_n 3 dX9_fits_146 rfl ?_
          refine rv_iaload dX9_fits_147 h (fun v49 h => ?_)
          refine rv_iload 0 dX9_fits_148 rfl ?_
          refine rv_iadd dX9_fits_150 ?_
          refine rv_letI h (fun v50 h => ?_)
          refine rv_istore (l2 := [(8, .int v50), (7, .int v36), (6, .int v19), (0, .ref x0), (1, .int x1), (2, .int x2), (3, .int x3), (4, .int x4), (5, .int x5)]) dX9_fits_151 rfl rfl ?_
          refine rv_iload_n 6 dX9_fits_153 rfl ?_
          refine rv_iload 0 dX9_fits_154 rfl ?_
          refine rv_mmax ml_X9_298 sm_J9_max_7cf53 in_J9 co_J9_max_7cf53 dX9_fits_156 rfl rfl ?_
          refine rv_letI h (fun v51 h => ?_)
          refine rv_istore_n (l2 := [(3, .int v51), (8, .int v50), (7, .int v36), (6, .int v19), (0, .ref x0), (1, .int x1), (2, .int x2), (4, .int x4), (5, .int x5)]) dX9_fits_159 rfl rfl ?_
          refine rv_iload 7 dX9_fits_160 rfl ?_
          refine rv_iload 1 dX9_fits_162 rfl ?_
          refine rv_mmin ml_X9_303 sm_J9_min_7cf53 in_J9 co_J9_min_7cf53 dX9_fits_164 rfl rfl ?_
          refine rv_letI h (fun v52 h => ?_)
          refine rv_istore (l2 := [(4, .int v52), (3, .int v51), (8, .int v50), (7, .int v36), (6, .int v19), (0, .ref x0), (1, .int x1), (2, .int x2), (5, .int x5)]) dX9_fits_167 rfl rfl ?_
          refine rv_goto 179 dX9_fits_169 (by decide) ?_
          exact rv_sub [5, 6, 7, 1, 0, 8] rfl (hK179 v51 v52 h)
      · replace h := rIfT h c27
        refine rv_iconst (v := 0) dX9_fits_90 (by decide) ?_
        exact rv_iret .int dX9_fits_91 rfl rfl (rRetIp h)
set_option maxRecDepth 20000 in
theorem E_X9_fits {x0 : Nat} {x1 : Int32} {x2 : Int32} {r0 : Int32} {w : rW} (h : J_X9_fits x0 x1 x2 w = some r0) : (∃ fs, w[x0]? = some (cO 9 fs)) ∧ rMet mX9_fits 2 0 0 [.ref x0, .int x1, .int x2] w (rIs (some (.int r0)) w) := by
  unfold J_X9_fits at h
  obtain ⟨hrc, h⟩ := rRc_some h
  refine ⟨hrc, ?_⟩
  refine rMet_of (by decide) rfl ?_
  refine rv_aload_n 0 dX9_fits_0 rfl ?_
  refine rv_getR ff_X9_12 dX9_fits_1 h (fun a1 h => ?_)
  refine rv_getR ff_X9_27 dX9_fits_4 h (fun a2 h => ?_)
  refine rv_iload_n 1 dX9_fits_7 rfl ?_
  obtain ⟨b4, h3, h⟩ := rBind h
  refine rv_callVr (k3 := 0) (n3 := 0) (st2 := []) caX0_has cvX0_has ml_X9_89 dX9_fits_8 rfl (E_X0_has h3).2 (E_X0_has h3).1 rfl rfl rfl rfl rfl ?_
  clear h3
  refine rv_if_eq 23 dX9_fits_11 (by decide) (fun c5 => ?_) (fun c5 => ?_)
  · replace h := rIfT h c5
    refine rv_iconst (v := (-1)) dX9_fits_23 (by decide) ?_
    exact rv_iret .int dX9_fits_24 rfl rfl (rRetIp h)
  · replace h := rIfF h c5
    refine rv_iload_n 2 dX9_fits_14 rfl ?_
    refine rv_if_lt 23 dX9_fits_15 (by decide) (fun c6 => ?_) (fun c6 => ?_)
    · replace h := rIfT h c6
      refine rv_iconst (v := (-1)) dX9_fits_23 (by decide) ?_
      exact rv_iret .int dX9_fits_24 rfl rfl (rRetIp h)
    · replace h := rIfF h c6
      refine rv_iload_n 2 dX9_fits_18 rfl ?_
      refine rv_iconst (v := 1) dX9_fits_19 (by decide) ?_
      refine rv_icmp_le 25 dX9_fits_20 (by decide) (fun c7 => ?_) (fun c7 => ?_)
      · replace h := rIfT h c7
        refine rv_bipush (v := (-9)) dX9_fits_25 (by decide) ?_
        refine rv_istore_n (l2 := [(3, .int (-9)), (0, .ref x0), (1, .int x1), (2, .int x2)]) dX9_fits_27 rfl rfl ?_
        refine rv_bipush (v := 9) dX9_fits_28 (by decide) ?_
        refine rv_istore (l2 := [(4, .int 9), (3, .int (-9)), (0, .ref x0), (1, .int x1), (2, .int x2)]) dX9_fits_30 rfl rfl ?_
        refine rv_iconst (v := 0) dX9_fits_32 (by decide) ?_
        refine rv_istore (l2 := [(5, .int 0), (4, .int 9), (3, .int (-9)), (0, .ref x0), (1, .int x1), (2, .int x2)]) dX9_fits_33 rfl rfl ?_
        obtain ⟨K185, eK185, h⟩ := rLetE h
        have hK185 : ∀ (y3 : Int32) (y4 : Int32), K185 y3 y4 = some r0 → rEv mX9_fits 2 0 0 185 [(2, .int x2), (3, .int y3), (4, .int y4)] [] w (rIs (some (.int r0)) w) := by
          intro x3_8 x4_9 h
          rw [eK185] at h
          refine rv_iload_n 1 dX9_fits_185 rfl ?_
          refine rv_iload 2 dX9_fits_186 rfl ?_
          refine rv_icmp_le 193 dX9_fits_188 (by decide) (fun c10 => ?_) (fun c10 => ?_)
          · replace h := rIfT h c10
            refine rv_iload_n 0 dX9_fits_193 rfl ?_
            refine rv_if_ne 206 dX9_fits_194 (by decide) (fun c11 => ?_) (fun c11 => ?_)
            · replace h := rIfF h c11
              refine rv_iload_n 1 dX9_fits_206 rfl ?_
              refine rv_bipush (v := 10) dX9_fits_207 (by decide) ?_
              refine rv_iadd dX9_fits_209 ?_
              exact rv_iret .int dX9_fits_210 rfl rfl (rRetIp h)
            · replace h := rIfT h c11
              refine rv_iload 2 dX9_fits_197 rfl ?_
              refine rv_iload_n 1 dX9_fits_199 rfl ?_
              refine rv_isub dX9_fits_200 ?_
              refine rv_iconst (v := 1) dX9_fits_201 (by decide) ?_
              refine rv_iadd dX9_fits_202 ?_
              refine rv_goto 210 dX9_fits_203 (by decide) ?_
              exact rv_iret .int dX9_fits_210 rfl rfl (rRetIp h)
          · replace h := rIfF h c10
            refine rv_iconst (v := 0) dX9_fits_191 (by decide) ?_
            exact rv_iret .int dX9_fits_192 rfl rfl (rRetIp h)
        clear eK185
        exact rv_sub [3, 4, 5, 2, 1, 0] rfl (E_X9_fits_35 x0 x1 x2 w hK185 2000 (-9) 9 0 h)
      · replace h := rIfF h c7
        refine rv_iconst (v := (-1)) dX9_fits_23 (by decide) ?_
        exact rv_iret .int dX9_fits_24 rfl rfl (rRetIp h)
set_option maxRecDepth 20000 in
theorem E_X9_greatestDivisor_7 {r0 : Int32}   (w : rW)   : ∀ (f : Nat) (x2 : Int32) (x3 : Int32) (x4 : Int32), J_X9_greatestDivisor_7 f x2 x3 x4 = some r0 → rEv mX9_greatestDivisor 0 0 0 7 [(2, .int x2), (3, .int x3), (4, .int x4)] [] w (rIs (some (.int r0)) w) := by
  intro f
  induction f with
  | zero =>
    intro x2 x3 x4 h
    exact absurd (show (none : Option Int32) = some r0 from h) (by simp)
  | succ f ih =>
    intro x2 x3 x4 h
    rw [J_X9_greatestDivisor_7] at h
    refine rv_iload 2 dX9_greatestDivisor_7 rfl ?_
    refine rv_bipush (v := 100) dX9_greatestDivisor_9 (by decide) ?_
    refine rv_icmp_ge 34 dX9_greatestDivisor_11 (by decide) (fun c1 => ?_) (fun c1 => ?_)
    · replace h := rIfT h c1
      refine rv_iload_n 0 dX9_greatestDivisor_34 rfl ?_
      exact rv_iret .int dX9_greatestDivisor_35 rfl rfl (rRetIp h)
    · replace h := rIfF h c1
      refine rv_iload_n 1 dX9_greatestDivisor_14 rfl ?_
      refine rv_if_eq 34 dX9_greatestDivisor_15 (by decide) (fun c2 => ?_) (fun c2 => ?_)
      · replace h := rIfT h c2
        refine rv_iload_n 0 dX9_greatestDivisor_34 rfl ?_
        exact rv_iret .int dX9_greatestDivisor_35 rfl rfl (rRetIp h)
      · replace h := rIfF h c2
        refine rv_iload_n 0 dX9_greatestDivisor_18 rfl ?_
        refine rv_iload_n 1 dX9_greatestDivisor_19 rfl ?_
        refine rv_iremB dX9_greatestDivisor_20 h (fun v3 h => ?_)
        refine rv_istore (l2 := [(5, .int v3), (2, .int x2), (3, .int x3), (4, .int x4)]) dX9_greatestDivisor_21 rfl rfl ?_
        refine rv_iload_n 2 dX9_greatestDivisor_23 rfl ?_
        refine rv_istore_n (l2 := [(2, .int x3), (5, .int v3), (3, .int x3), (4, .int x4)]) dX9_greatestDivisor_24 rfl rfl ?_
        refine rv_iload 1 dX9_greatestDivisor_25 rfl ?_
        refine rv_istore_n (l2 := [(3, .int v3), (2, .int x3), (5, .int v3), (4, .int x4)]) dX9_greatestDivisor_27 rfl rfl ?_
        obtain ⟨v4, ev4, h⟩ := rLetE h
        refine rv_iinc (v := v4) (l2 := [(4, .int v4), (3, .int v3), (2, .int x3), (5, .int v3)]) 3 dX9_greatestDivisor_28 rfl (by rw [ev4]; rfl) rfl rfl ?_
        clear ev4
        refine rv_goto 7 dX9_greatestDivisor_31 (by decide) ?_
        exact rv_sub [2, 1, 0] rfl (ih x3 v3 v4 h)
set_option maxRecDepth 20000 in
theorem E_X9_greatestDivisor {x0 : Int32} {x1 : Int32} {r0 : Int32} {w : rW} (h : J_X9_greatestDivisor x0 x1 w = some r0) : rMet mX9_greatestDivisor 0 0 0 [.int x0, .int x1] w (rIs (some (.int r0)) w) := by
  unfold J_X9_greatestDivisor at h
  refine rMet_of (by decide) rfl ?_
  refine rv_iload_n 0 dX9_greatestDivisor_0 rfl ?_
  refine rv_istore_n (l2 := [(2, .int x0), (0, .int x0), (1, .int x1)]) dX9_greatestDivisor_1 rfl rfl ?_
  refine rv_iload_n 2 dX9_greatestDivisor_2 rfl ?_
  refine rv_istore_n (l2 := [(3, .int x1), (2, .int x0), (0, .int x0), (1, .int x1)]) dX9_greatestDivisor_3 rfl rfl ?_
  refine rv_iconst (v := 0) dX9_greatestDivisor_4 (by decide) ?_
  refine rv_istore (l2 := [(4, .int 0), (3, .int x1), (2, .int x0), (0, .int x0), (1, .int x1)]) dX9_greatestDivisor_5 rfl rfl ?_
  exact rv_sub [2, 1, 0] rfl (E_X9_greatestDivisor_7 w 2000 x0 x1 0 h)
set_option maxRecDepth 20000 in
theorem E_X9_lowestTerm {x0 : Int32} {x1 : Int32} {x2 : Int32} {r0 : Int64} {w : rW} (h : J_X9_lowestTerm x0 x1 x2 w = some r0) : rMet mX9_lowestTerm 1 0 0 [.int x0, .int x1, .int x2] w (rIs (some (.long r0)) w) := by
  unfold J_X9_lowestTerm at h
  refine rMet_of (by decide) rfl ?_
  refine rv_iload_n 1 dX9_lowestTerm_0 rfl ?_
  refine rv_if_le 13 dX9_lowestTerm_1 (by decide) (fun c1 => ?_) (fun c1 => ?_)
  · replace h := rIfT h c1
    refine rv_ldc2 dX9_lowestTerm_13 kl_X9_306 ?_
    exact rv_lret dX9_lowestTerm_16 rfl (rRetJp h)
  · replace h := rIfF h c1
    refine rv_iload_n 2 dX9_lowestTerm_4 rfl ?_
    refine rv_if_lt 13 dX9_lowestTerm_5 (by decide) (fun c2 => ?_) (fun c2 => ?_)
    · replace h := rIfT h c2
      refine rv_ldc2 dX9_lowestTerm_13 kl_X9_306 ?_
      exact rv_lret dX9_lowestTerm_16 rfl (rRetJp h)
    · replace h := rIfF h c2
      refine rv_iload_n 2 dX9_lowestTerm_8 rfl ?_
      refine rv_iconst (v := 1) dX9_lowestTerm_9 (by decide) ?_
      refine rv_icmp_le 17 dX9_lowestTerm_10 (by decide) (fun c3 => ?_) (fun c3 => ?_)
      · replace h := rIfT h c3
        refine rv_iload_n 0 dX9_lowestTerm_17 rfl ?_
        refine rv_iload_n 1 dX9_lowestTerm_18 rfl ?_
        obtain ⟨v5, h4, h⟩ := rBind h
        refine rv_callSr (k3 := 0) (n3 := 0) (st2 := []) (As := [.int x0, .int x1]) caX9_greatestDivisor csX9_greatestDivisor ml_X9_362 dX9_lowestTerm_19 rfl (E_X9_greatestDivisor h4) rfl rfl rfl rfl rfl ?_
        clear h4
        refine rv_istore_n (l2 := [(3, .int v5), (0, .int x0), (1, .int x1), (2, .int x2)]) dX9_lowestTerm_22 rfl rfl ?_
        refine rv_iload_n 0 dX9_lowestTerm_23 rfl ?_
        refine rv_if_gt 31 dX9_lowestTerm_24 (by decide) (fun c6 => ?_) (fun c6 => ?_)
        · replace h := rIfT h c6
          refine rv_iload_n 3 dX9_lowestTerm_31 rfl ?_
          refine rv_if_ne 42 dX9_lowestTerm_32 (by decide) (fun c7 => ?_) (fun c7 => ?_)
          · replace h := rIfF h c7
            refine rv_iload_n 2 dX9_lowestTerm_42 rfl ?_
            refine rv_iload_n 0 dX9_lowestTerm_43 rfl ?_
            refine rv_idivB dX9_lowestTerm_44 h (fun v8 h => ?_)
            refine rv_i2l dX9_lowestTerm_45 ?_
            exact rv_lret dX9_lowestTerm_46 rfl (rRetJp h)
          · replace h := rIfT h c7
            refine rv_iload_n 1 dX9_lowestTerm_35 rfl ?_
            refine rv_iload_n 0 dX9_lowestTerm_36 rfl ?_
            refine rv_idivB dX9_lowestTerm_37 h (fun v9 h => ?_)
            refine rv_i2l dX9_lowestTerm_38 ?_
            refine rv_goto 46 dX9_lowestTerm_39 (by decide) ?_
            exact rv_lret dX9_lowestTerm_46 rfl (rRetJp h)
        · replace h := rIfF h c6
          refine rv_ldc2 dX9_lowestTerm_27 kl_X9_306 ?_
          exact rv_lret dX9_lowestTerm_30 rfl (rRetJp h)
      · replace h := rIfF h c3
        refine rv_ldc2 dX9_lowestTerm_13 kl_X9_306 ?_
        exact rv_lret dX9_lowestTerm_16 rfl (rRetJp h)
set_option maxRecDepth 20000 in
theorem E_X9_odds {x0 : Nat} {x1 : Int32} {x2 : Int32} {r0 : Int64} {w : rW} (h : J_X9_odds x0 x1 x2 w = some r0) : (∃ fs, w[x0]? = some (cO 9 fs)) ∧ rMet mX9_odds 2 0 0 [.ref x0, .int x1, .int x2] w (rIs (some (.long r0)) w) := by
  unfold J_X9_odds at h
  obtain ⟨hrc, h⟩ := rRc_some h
  refine ⟨hrc, ?_⟩
  refine rMet_of (by decide) rfl ?_
  refine rv_aload_n 0 dX9_odds_0 rfl ?_
  refine rv_getR ff_X9_12 dX9_odds_1 h (fun a1 h => ?_)
  refine rv_getR ff_X9_27 dX9_odds_4 h (fun a2 h => ?_)
  refine rv_iload_n 1 dX9_odds_7 rfl ?_
  refine rv_aload_n 0 dX9_odds_8 rfl ?_
  refine rv_getR ff_X9_12 dX9_odds_9 h (fun a3 h => ?_)
  refine rv_getR ff_X9_27 dX9_odds_12 h (fun a4 h => ?_)
  refine rv_getI ff_X9_230 dX9_odds_15 h (fun v5 h => ?_)
  obtain ⟨b7, h6, h⟩ := rBind h
  refine rv_callVr (k3 := 0) (n3 := 0) (st2 := []) caX0_isSet cvX0_isSet ml_X9_223 dX9_odds_18 rfl (E_X0_isSet h6).2 (E_X0_isSet h6).1 rfl rfl rfl rfl rfl ?_
  clear h6
  refine rv_if_ne 28 dX9_odds_21 (by decide) (fun c8 => ?_) (fun c8 => ?_)
  · replace h := rIfF h c8
    refine rv_aload_n 0 dX9_odds_28 rfl ?_
    refine rv_getR ff_X9_12 dX9_odds_29 h (fun a9 h => ?_)
    refine rv_getR ff_X9_83 dX9_odds_32 h (fun a10 h => ?_)
    refine rv_iload_n 1 dX9_odds_35 rfl ?_
    obtain ⟨v12, h11, h⟩ := rBind h
    refine rv_callVr (k3 := 0) (n3 := 0) (st2 := []) caX5_coverOf cvX5_coverOf ml_X9_239 dX9_odds_36 rfl (E_X5_coverOf h11).2 (E_X5_coverOf h11).1 rfl rfl rfl rfl rfl ?_
    clear h11
    refine rv_aload_n 0 dX9_odds_39 rfl ?_
    refine rv_getR ff_X9_12 dX9_odds_40 h (fun a13 h => ?_)
    refine rv_getR ff_X9_27 dX9_odds_43 h (fun a14 h => ?_)
    refine rv_iload_n 1 dX9_odds_46 rfl ?_
    obtain ⟨v16, h15, h⟩ := rBind h
    refine rv_callVr (k3 := 0) (n3 := 0) (st2 := [.int v12]) caX0_holding cvX0_holding ml_X9_308 dX9_odds_47 rfl (E_X0_holding h15).2 (E_X0_holding h15).1 rfl rfl rfl rfl rfl ?_
    clear h15
    refine rv_iload_n 2 dX9_odds_50 rfl ?_
    obtain ⟨v18, h17, h⟩ := rBind h
    refine rv_callSr (k3 := 0) (n3 := 0) (st2 := []) (As := [.int v12, .int v16, .int x2]) caX9_lowestTerm csX9_lowestTerm ml_X9_311 dX9_odds_51 rfl (E_X9_lowestTerm h17) rfl rfl rfl rfl rfl ?_
    clear h17
    exact rv_lret dX9_odds_54 rfl (rRetJp h)
  · replace h := rIfT h c8
    refine rv_ldc2 dX9_odds_24 kl_X9_306 ?_
    exact rv_lret dX9_odds_27 rfl (rRetJp h)
set_option maxRecDepth 20000 in
theorem E_X9_mean {x0 : Nat} {x1 : Int32} {r0 : Int64} {w : rW} (h : J_X9_mean x0 x1 w = some r0) : (∃ fs, w[x0]? = some (cO 9 fs)) ∧ rMet mX9_mean 2 0 0 [.ref x0, .int x1] w (rIs (some (.long r0)) w) := by
  unfold J_X9_mean at h
  obtain ⟨hrc, h⟩ := rRc_some h
  refine ⟨hrc, ?_⟩
  refine rMet_of (by decide) rfl ?_
  refine rv_aload_n 0 dX9_mean_0 rfl ?_
  refine rv_getR ff_X9_12 dX9_mean_1 h (fun a1 h => ?_)
  refine rv_getR ff_X9_83 dX9_mean_4 h (fun a2 h => ?_)
  obtain ⟨v4, h3, h⟩ := rBind h
  refine rv_callVr (k3 := 0) (n3 := 0) (st2 := []) caX5_volume cvX5_volume ml_X9_108 dX9_mean_7 rfl (E_X5_volume h3).2 (E_X5_volume h3).1 rfl rfl rfl rfl rfl ?_
  clear h3
  refine rv_aload_n 0 dX9_mean_10 rfl ?_
  refine rv_getR ff_X9_12 dX9_mean_11 h (fun a5 h => ?_)
  refine rv_getR ff_X9_83 dX9_mean_14 h (fun a6 h => ?_)
  obtain ⟨v8, h7, h⟩ := rBind h
  refine rv_callVr (k3 := 0) (n3 := 0) (st2 := [.int v4]) caX5_countsNotZero cvX5_countsNotZero ml_X9_114 dX9_mean_17 rfl (E_X5_countsNotZero h7).2 (E_X5_countsNotZero h7).1 rfl rfl rfl rfl rfl ?_
  clear h7
  refine rv_iload_n 1 dX9_mean_20 rfl ?_
  obtain ⟨v10, h9, h⟩ := rBind h
  refine rv_callSr (k3 := 0) (n3 := 0) (st2 := []) (As := [.int v4, .int v8, .int x1]) caX9_lowestTerm csX9_lowestTerm ml_X9_311 dX9_mean_21 rfl (E_X9_lowestTerm h9) rfl rfl rfl rfl rfl ?_
  clear h9
  exact rv_lret dX9_mean_24 rfl (rRetJp h)

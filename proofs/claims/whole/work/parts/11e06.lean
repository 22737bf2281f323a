set_option maxRecDepth 20000 in
theorem E_X9_event {x0 : Nat} {x1 : Int32} {x2 : Int32} {r0 : Int32} {w0 : rW} {w : rW} (h : J_X9_event x0 x1 x2 w = some (r0, w0)) : (∃ fs, w[x0]? = some (cO 9 fs)) ∧ rMet mX9_event 3 0 0 [.ref x0, .int x1, .int x2] w (rIs (some (.int r0)) w0) := by
  unfold J_X9_event at h
  obtain ⟨hrc, h⟩ := rRc_some h
  refine ⟨hrc, ?_⟩
  refine rMet_of (by decide) rfl ?_
  refine rv_iload_n 1 dX9_event_0 rfl ?_
  refine rv_iconst (v := (-1)) dX9_event_1 (by decide) ?_
  refine rv_icmp_ne 16 dX9_event_2 (by decide) (fun c1 => ?_) (fun c1 => ?_)
  · replace h := rIfF h c1
    refine rv_iload_n 1 dX9_event_16 rfl ?_
    refine rv_if_lt 44 dX9_event_17 (by decide) (fun c2 => ?_) (fun c2 => ?_)
    · replace h := rIfT h c2
      refine rv_iconst (v := (-1)) dX9_event_44 (by decide) ?_
      exact rv_iret .int dX9_event_45 rfl rfl (rRetIw h)
    · replace h := rIfF h c2
      refine rv_iload_n 1 dX9_event_20 rfl ?_
      refine rv_iconst (v := 4) dX9_event_21 (by decide) ?_
      refine rv_icmp_gt 44 dX9_event_22 (by decide) (fun c3 => ?_) (fun c3 => ?_)
      · replace h := rIfT h c3
        refine rv_iconst (v := (-1)) dX9_event_44 (by decide) ?_
        exact rv_iret .int dX9_event_45 rfl rfl (rRetIw h)
      · replace h := rIfF h c3
        refine rv_iload_n 1 dX9_event_25 rfl ?_
        refine rv_iconst (v := 3) dX9_event_26 (by decide) ?_
        obtain ⟨K46, eK46, h⟩ := rLetE h
        have hK46 : K46 = some (r0, w0) → rEv mX9_event 3 0 0 46 [(0, .ref x0), (1, .int x1), (2, .int x2)] [] w (rIs (some (.int r0)) w0) := by
          intro h
          rw [eK46] at h
          refine rv_iload_n 1 dX9_event_46 rfl ?_
          obtain ⟨K71, eK71, h⟩ := rLetE h
          have hK71 : ∀ (w : rW), K71 w = some (r0, w0) → rEv mX9_event 3 0 0 71 [(0, .ref x0), (1, .int x1), (2, .int x2)] [] w (rIs (some (.int r0)) w0) := by
            intro w4 h
            rw [eK71] at h
            refine rv_iload_n 1 dX9_event_71 rfl ?_
            refine rv_iconst (v := 1) dX9_event_72 (by decide) ?_
            obtain ⟨K88, eK88, h⟩ := rLetE h
            have hK88 : K88 = some (r0, w0) → rEv mX9_event 3 0 0 88 [(0, .ref x0), (1, .int x1), (2, .int x2)] [] w4 (rIs (some (.int r0)) w0) := by
              intro h
              rw [eK88] at h
              refine rv_aload_n 0 dX9_event_88 rfl ?_
              refine rv_getR ff_X9_12 dX9_event_89 h (fun a5 h => ?_)
              refine rv_getR ff_X9_315 dX9_event_92 h (fun a6 h => ?_)
              refine rv_iload_n 1 dX9_event_95 rfl ?_
              refine rv_iload_n 2 dX9_event_96 rfl ?_
              obtain ⟨v8, w9, h7, h⟩ := rB2_some h
              refine rv_callVr (k3 := 0) (n3 := 0) (st2 := []) caX3_addRow cvX3_addRow ml_X9_285 dX9_event_97 rfl (E_X3_addRow h7).2 (E_X3_addRow h7).1 rfl rfl rfl rfl rfl ?_
              clear h7
              exact rv_iret .int dX9_event_100 rfl rfl (rRetIw h)
            clear eK88
            obtain ⟨K81, eK81, h⟩ := rLetE h
            have hK81 : K81 = some (r0, w0) → rEv mX9_event 3 0 0 81 [(0, .ref x0), (1, .int x1), (2, .int x2)] [] w4 (rIs (some (.int r0)) w0) := by
              intro h
              rw [eK81] at h
              refine rv_iload_n 2 dX9_event_81 rfl ?_
              refine rv_if_eq 88 dX9_event_82 (by decide) (fun c10 => ?_) (fun c10 => ?_)
              · replace h := rIfT h c10
                exact rv_sub [0, 1, 2] rfl (hK88 h)
              · replace h := rIfF h c10
                refine rv_bipush (v := (-2)) dX9_event_85 (by decide) ?_
                exact rv_iret .int dX9_event_87 rfl rfl (rRetIw h)
            clear eK81
            refine rv_icmp_eq 81 dX9_event_73 (by decide) (fun c11 => ?_) (fun c11 => ?_)
            · replace h := rIfT h c11
              exact rv_sub [0, 1, 2] rfl (hK81 h)
            · replace h := rIfF h c11
              refine rv_iload_n 1 dX9_event_76 rfl ?_
              refine rv_iconst (v := 2) dX9_event_77 (by decide) ?_
              refine rv_icmp_ne 88 dX9_event_78 (by decide) (fun c12 => ?_) (fun c12 => ?_)
              · replace h := rIfF h c12
                exact rv_sub [0, 1, 2] rfl (hK88 h)
              · replace h := rIfT h c12
                exact rv_sub [0, 1, 2] rfl (hK81 h)
          clear eK71
          refine rv_if_ne 71 dX9_event_47 (by decide) (fun c13 => ?_) (fun c13 => ?_)
          · replace h := rIfF h c13
            exact rv_sub [0, 1, 2] rfl (hK71 w h)
          · replace h := rIfT h c13
            refine rv_aload_n 0 dX9_event_50 rfl ?_
            refine rv_getR ff_X9_41 dX9_event_51 h (fun a14 h => ?_)
            refine rv_aload_n 0 dX9_event_54 rfl ?_
            refine rv_getR ff_X9_12 dX9_event_55 h (fun a15 h => ?_)
            refine rv_getR ff_X9_27 dX9_event_58 h (fun a16 h => ?_)
            refine rv_iload_n 2 dX9_event_61 rfl ?_
            obtain ⟨b18, w19, h17, h⟩ := rB2_some h
            refine rv_callVr (k3 := 0) (n3 := 0) (st2 := []) caX8_take cvX8_take ml_X9_100 dX9_event_62 rfl (E_X8_take h17).2 (E_X8_take h17).1 rfl rfl rfl rfl rfl ?_
            clear h17
            refine rv_if_ne 71 dX9_event_65 (by decide) (fun c20 => ?_) (fun c20 => ?_)
            · replace h := rIfF h c20
              exact rv_sub [0, 1, 2] rfl (hK71 w19 h)
            · replace h := rIfT h c20
              refine rv_bipush (v := (-2)) dX9_event_68 (by decide) ?_
              exact rv_iret .int dX9_event_70 rfl rfl (rRetIw h)
        clear eK46
        refine rv_icmp_lt 46 dX9_event_27 (by decide) (fun c21 => ?_) (fun c21 => ?_)
        · replace h := rIfT h c21
          exact rv_sub [0, 1, 2] rfl (hK46 h)
        · replace h := rIfF h c21
          refine rv_aload_n 0 dX9_event_30 rfl ?_
          refine rv_getR ff_X9_12 dX9_event_31 h (fun a22 h => ?_)
          refine rv_getR ff_X9_27 dX9_event_34 h (fun a23 h => ?_)
          refine rv_iload_n 2 dX9_event_37 rfl ?_
          obtain ⟨b25, h24, h⟩ := rBind h
          refine rv_callVr (k3 := 0) (n3 := 0) (st2 := []) caX0_has cvX0_has ml_X9_89 dX9_event_38 rfl (E_X0_has h24).2 (E_X0_has h24).1 rfl rfl rfl rfl rfl ?_
          clear h24
          refine rv_if_ne 46 dX9_event_41 (by decide) (fun c26 => ?_) (fun c26 => ?_)
          · replace h := rIfF h c26
            exact rv_sub [0, 1, 2] rfl (hK46 h)
          · replace h := rIfT h c26
            refine rv_iconst (v := (-1)) dX9_event_44 (by decide) ?_
            exact rv_iret .int dX9_event_45 rfl rfl (rRetIw h)
  · replace h := rIfT h c1
    refine rv_aload_n 0 dX9_event_5 rfl ?_
    refine rv_getR ff_X9_12 dX9_event_6 h (fun a27 h => ?_)
    refine rv_getR ff_X9_315 dX9_event_9 h (fun a28 h => ?_)
    obtain ⟨v30, w31, h29, h⟩ := rB2_some h
    refine rv_callVr (k3 := 0) (n3 := 0) (st2 := []) caX3_becomeEmpty cvX3_becomeEmpty ml_X9_281 dX9_event_12 rfl (E_X3_becomeEmpty h29).2 (E_X3_becomeEmpty h29).1 rfl rfl rfl rfl rfl ?_
    clear h29
    exact rv_iret .int dX9_event_15 rfl rfl (rRetIw h)
set_option maxRecDepth 20000 in
theorem E_X9_happen {x0 : Nat} {x1 : Int32} {x2 : Int32} {w0 : rW} {w : rW} (h : J_X9_happen x0 x1 x2 w = some w0) : (∃ fs, w[x0]? = some (cO 9 fs)) ∧ rMet mX9_happen 4 0 0 [.ref x0, .int x1, .int x2] w (rIs none w0) := by
  unfold J_X9_happen at h
  obtain ⟨hrc, h⟩ := rRc_some h
  refine ⟨hrc, ?_⟩
  refine rMet_of (by decide) rfl ?_
  refine rv_iload_n 1 dX9_happen_0 rfl ?_
  refine rIf h (fun c1 h => ?_) (fun c1 h => ?_)
  · refine rv_tswIn 36 dX9_happen_1 c1 (by decide) (by decide) rfl (by decide) ?_
    refine rv_aload_n 0 dX9_happen_36 rfl ?_
    refine rv_getR ff_X9_41 dX9_happen_37 h (fun a2 h => ?_)
    refine rv_aload_n 0 dX9_happen_40 rfl ?_
    refine rv_getR ff_X9_12 dX9_happen_41 h (fun a3 h => ?_)
    refine rv_getR ff_X9_27 dX9_happen_44 h (fun a4 h => ?_)
    refine rv_iload_n 2 dX9_happen_47 rfl ?_
    obtain ⟨b6, w7, h5, h⟩ := rB2_some h
    refine rv_callVr (k3 := 0) (n3 := 0) (st2 := []) caX8_take cvX8_take ml_X9_100 dX9_happen_48 rfl (E_X8_take h5).2 (E_X8_take h5).1 rfl rfl rfl rfl rfl ?_
    clear h5
    refine rv_if_eq 169 dX9_happen_51 (by decide) (fun c8 => ?_) (fun c8 => ?_)
    · replace h := rIfT h c8
      exact rv_vret dX9_happen_169 rfl (rRetV h)
    · replace h := rIfF h c8
      refine rv_aload_n 0 dX9_happen_54 rfl ?_
      refine rv_getR ff_X9_34 dX9_happen_55 h (fun a9 h => ?_)
      refine rv_aload_n 0 dX9_happen_58 rfl ?_
      refine rv_getR ff_X9_41 dX9_happen_59 h (fun a10 h => ?_)
      refine rv_iconst (v := 1) dX9_happen_62 (by decide) ?_
      obtain ⟨b12, w13, h11, h⟩ := rB2_some h
      refine rv_callVr (k3 := 0) (n3 := 0) (st2 := []) caX5_addTwist cvX5_addTwist ml_X9_104 dX9_happen_63 rfl (E_X5_addTwist h11).2 (E_X5_addTwist h11).1 rfl rfl rfl rfl rfl ?_
      clear h11
      refine rv_pop dX9_happen_66 rfl ?_
      refine rv_goto 169 dX9_happen_67 (by decide) ?_
      exact rv_vret dX9_happen_169 rfl (rRetV h)
  refine rIf h (fun c14 h => ?_) (fun c14 h => ?_)
  · refine rv_tswIn 70 dX9_happen_1 c14 (by decide) (by decide) rfl (by decide) ?_
    refine rv_aload_n 0 dX9_happen_70 rfl ?_
    refine rv_getR ff_X9_34 dX9_happen_71 h (fun a15 h => ?_)
    obtain ⟨w17, h16, h⟩ := rBind h
    refine rv_callVv (k3 := 0) (n3 := 0) (st2 := []) caX5_changeSigns cvX5_changeSigns ml_X9_111 dX9_happen_74 rfl (E_X5_changeSigns h16).2 (E_X5_changeSigns h16).1 rfl rfl rfl rfl rfl ?_
    clear h16
    refine rv_goto 169 dX9_happen_77 (by decide) ?_
    exact rv_vret dX9_happen_169 rfl (rRetV h)
  refine rIf h (fun c18 h => ?_) (fun c18 h => ?_)
  · refine rv_tswIn 80 dX9_happen_1 c18 (by decide) (by decide) rfl (by decide) ?_
    refine rv_aload_n 0 dX9_happen_80 rfl ?_
    refine rv_getR ff_X9_34 dX9_happen_81 h (fun a19 h => ?_)
    obtain ⟨b21, h20, h⟩ := rBind h
    refine rv_callVr (k3 := 0) (n3 := 0) (st2 := []) caX5_mayBeSwapped cvX5_mayBeSwapped ml_X9_132 dX9_happen_84 rfl (E_X5_mayBeSwapped h20).2 (E_X5_mayBeSwapped h20).1 rfl rfl rfl rfl rfl ?_
    clear h20
    refine rv_if_eq 169 dX9_happen_87 (by decide) (fun c22 => ?_) (fun c22 => ?_)
    · replace h := rIfT h c22
      exact rv_vret dX9_happen_169 rfl (rRetV h)
    · replace h := rIfF h c22
      refine rv_aload_n 0 dX9_happen_90 rfl ?_
      refine rv_getR ff_X9_34 dX9_happen_91 h (fun a23 h => ?_)
      obtain ⟨w25, h24, h⟩ := rBind h
      refine rv_callVv (k3 := 0) (n3 := 0) (st2 := []) caX5_swapByRow cvX5_swapByRow ml_X9_136 dX9_happen_94 rfl (E_X5_swapByRow h24).2 (E_X5_swapByRow h24).1 rfl rfl rfl rfl rfl ?_
      clear h24
      refine rv_goto 169 dX9_happen_97 (by decide) ?_
      exact rv_vret dX9_happen_169 rfl (rRetV h)
  refine rIf h (fun c26 h => ?_) (fun c26 h => ?_)
  · refine rv_tswIn 100 dX9_happen_1 c26 (by decide) (by decide) rfl (by decide) ?_
    refine rv_aload_n 0 dX9_happen_100 rfl ?_
    refine rv_getR ff_X9_12 dX9_happen_101 h (fun a27 h => ?_)
    refine rv_getR ff_X9_27 dX9_happen_104 h (fun a28 h => ?_)
    refine rv_iload_n 2 dX9_happen_107 rfl ?_
    obtain ⟨b30, h29, h⟩ := rBind h
    refine rv_callVr (k3 := 0) (n3 := 0) (st2 := []) caX0_has cvX0_has ml_X9_89 dX9_happen_108 rfl (E_X0_has h29).2 (E_X0_has h29).1 rfl rfl rfl rfl rfl ?_
    clear h29
    refine rv_if_eq 169 dX9_happen_111 (by decide) (fun c31 => ?_) (fun c31 => ?_)
    · replace h := rIfT h c31
      exact rv_vret dX9_happen_169 rfl (rRetV h)
    · replace h := rIfF h c31
      refine rv_aload_n 0 dX9_happen_114 rfl ?_
      refine rv_getR ff_X9_34 dX9_happen_115 h (fun a32 h => ?_)
      refine rv_iload_n 2 dX9_happen_118 rfl ?_
      obtain ⟨w34, h33, h⟩ := rBind h
      refine rv_callVv (k3 := 0) (n3 := 0) (st2 := []) caX5_toggle cvX5_toggle ml_X9_128 dX9_happen_119 rfl (E_X5_toggle h33).2 (E_X5_toggle h33).1 rfl rfl rfl rfl rfl ?_
      clear h33
      refine rv_goto 169 dX9_happen_122 (by decide) ?_
      exact rv_vret dX9_happen_169 rfl (rRetV h)
  refine rIf h (fun c35 h => ?_) (fun c35 h => ?_)
  · refine rv_tswIn 125 dX9_happen_1 c35 (by decide) (by decide) rfl (by decide) ?_
    refine rv_aload_n 0 dX9_happen_125 rfl ?_
    refine rv_getR ff_X9_12 dX9_happen_126 h (fun a36 h => ?_)
    refine rv_getR ff_X9_27 dX9_happen_129 h (fun a37 h => ?_)
    refine rv_iload_n 2 dX9_happen_132 rfl ?_
    obtain ⟨b39, h38, h⟩ := rBind h
    refine rv_callVr (k3 := 0) (n3 := 0) (st2 := []) caX0_has cvX0_has ml_X9_89 dX9_happen_133 rfl (E_X0_has h38).2 (E_X0_has h38).1 rfl rfl rfl rfl rfl ?_
    clear h38
    refine rv_if_eq 169 dX9_happen_136 (by decide) (fun c40 => ?_) (fun c40 => ?_)
    · replace h := rIfT h c40
      exact rv_vret dX9_happen_169 rfl (rRetV h)
    · replace h := rIfF h c40
      refine rv_aload_n 0 dX9_happen_139 rfl ?_
      refine rv_getR ff_X9_34 dX9_happen_140 h (fun a41 h => ?_)
      refine rv_getR ff_X9_96 dX9_happen_143 h (fun a42 h => ?_)
      refine rv_iload_n 2 dX9_happen_146 rfl ?_
      refine rv_iaload dX9_happen_147 h (fun v43 h => ?_)
      refine rv_bipush (v := 99) dX9_happen_148 (by decide) ?_
      refine rv_icmp_ge 169 dX9_happen_150 (by decide) (fun c44 => ?_) (fun c44 => ?_)
      · replace h := rIfT h c44
        exact rv_vret dX9_happen_169 rfl (rRetV h)
      · replace h := rIfF h c44
        refine rv_aload_n 0 dX9_happen_153 rfl ?_
        refine rv_getR ff_X9_34 dX9_happen_154 h (fun a45 h => ?_)
        refine rv_getR ff_X9_96 dX9_happen_157 h (fun a46 h => ?_)
        refine rv_iload_n 2 dX9_happen_160 rfl ?_
        refine rv_dup2 dX9_happen_161 rfl rfl ?_
        refine rv_iaload dX9_happen_162 h (fun v47 h => ?_)
        refine rv_iconst (v := 1) dX9_happen_163 (by decide) ?_
        refine rv_iadd dX9_happen_164 ?_
        refine rv_iastore dX9_happen_165 h (fun w48 h => ?_)
        refine rv_goto 169 dX9_happen_166 (by decide) ?_
        exact rv_vret dX9_happen_169 rfl (rRetV h)
  refine rv_tswOut 169 [0, 1, 2, 3, 4] dX9_happen_1 (by decide) (by decide) (by decide) (fun v hv => ?_) ?_
  · simp only [List.mem_cons, List.not_mem_nil, or_false] at hv
    rcases hv with rfl | rfl | rfl | rfl | rfl
    · exact c1
    · exact c14
    · exact c18
    · exact c26
    · exact c35
  exact rv_vret dX9_happen_169 rfl (rRetV h)
set_option maxRecDepth 20000 in
theorem E_X9_after_27 {r0 : Int32} {w0 : rW}  (x0 : Nat) (x1 : Int32)  {K75 : rW → Option (Int32 × rW)} (hK75 : ∀ (w : rW), K75 w = some (r0, w0) → rEv mX9_after 5 0 0 75 [(0, .ref x0), (1, .int x1)] [] w (rIs (some (.int r0)) w0)) : ∀ (f : Nat) (x2 : Int32) (w : rW), J_X9_after_27 x0 K75 f x2 w = some (r0, w0) → rEv mX9_after 5 0 0 27 [(0, .ref x0), (1, .int x1), (2, .int x2)] [] w (rIs (some (.int r0)) w0) := by
  intro f
  induction f with
  | zero =>
    intro x2 w h
    exact absurd (show (none : Option (Int32 × rW)) = some (r0, w0) from h) (by simp)
  | succ f ih =>
    intro x2 w h
    rw [J_X9_after_27] at h
    refine rv_iload_n 2 dX9_after_27 rfl ?_
    refine rv_aload_n 0 dX9_after_28 rfl ?_
    refine rv_getR ff_X9_12 dX9_after_29 h (fun a21 h => ?_)
    refine rv_getR ff_X9_315 dX9_after_32 h (fun a22 h => ?_)
    refine rv_getI ff_X9_288 dX9_after_35 h (fun v23 h => ?_)
    refine rv_icmp_ge 75 dX9_after_38 (by decide) (fun c24 => ?_) (fun c24 => ?_)
    · replace h := rIfT h c24
      exact rv_sub [0, 1] rfl (hK75 w h)
    · replace h := rIfF h c24
      refine rv_aload_n 0 dX9_after_41 rfl ?_
      refine rv_aload_n 0 dX9_after_42 rfl ?_
      refine rv_getR ff_X9_12 dX9_after_43 h (fun a25 h => ?_)
      refine rv_getR ff_X9_315 dX9_after_46 h (fun a26 h => ?_)
      refine rv_getR ff_X9_289 dX9_after_49 h (fun a27 h => ?_)
      refine rv_iload_n 2 dX9_after_52 rfl ?_
      refine rv_iaload dX9_after_53 h (fun v28 h => ?_)
      refine rv_aload_n 0 dX9_after_54 rfl ?_
      refine rv_getR ff_X9_12 dX9_after_55 h (fun a29 h => ?_)
      refine rv_getR ff_X9_315 dX9_after_58 h (fun a30 h => ?_)
      refine rv_getR ff_X9_292 dX9_after_61 h (fun a31 h => ?_)
      refine rv_iload_n 2 dX9_after_64 rfl ?_
      refine rv_iaload dX9_after_65 h (fun v32 h => ?_)
      obtain ⟨w34, h33, h⟩ := rBind h
      refine rv_callVv (k3 := 0) (n3 := 0) (st2 := []) caX9_happen cvX9_happen ml_X9_321 dX9_after_66 rfl (E_X9_happen h33).2 (E_X9_happen h33).1 rfl rfl rfl rfl rfl ?_
      clear h33
      obtain ⟨v35, ev35, h⟩ := rLetE h
      refine rv_iinc (v := v35) (l2 := [(2, .int v35), (0, .ref x0), (1, .int x1)]) 2 dX9_after_69 rfl (by rw [ev35]; rfl) rfl rfl ?_
      clear ev35
      refine rv_goto 27 dX9_after_72 (by decide) ?_
      exact rv_sub [1, 2, 0] rfl (ih v35 w34 h)
set_option maxRecDepth 20000 in
theorem E_X9_after {x0 : Nat} {x1 : Int32} {r0 : Int32} {w0 : rW} {w : rW} (h : J_X9_after x0 x1 w = some (r0, w0)) : (∃ fs, w[x0]? = some (cO 9 fs)) ∧ rMet mX9_after 5 0 0 [.ref x0, .int x1] w (rIs (some (.int r0)) w0) := by
  unfold J_X9_after at h
  obtain ⟨hrc, h⟩ := rRc_some h
  refine ⟨hrc, ?_⟩
  refine rMet_of (by decide) rfl ?_
  refine rv_iload_n 1 dX9_after_0 rfl ?_
  refine rv_if_lt 9 dX9_after_1 (by decide) (fun c1 => ?_) (fun c1 => ?_)
  · replace h := rIfT h c1
    refine rv_iconst (v := (-1)) dX9_after_9 (by decide) ?_
    exact rv_iret .int dX9_after_10 rfl rfl (rRetIw h)
  · replace h := rIfF h c1
    refine rv_iload_n 1 dX9_after_4 rfl ?_
    refine rv_iconst (v := 2) dX9_after_5 (by decide) ?_
    refine rv_icmp_le 11 dX9_after_6 (by decide) (fun c2 => ?_) (fun c2 => ?_)
    · replace h := rIfT h c2
      refine rv_aload_n 0 dX9_after_11 rfl ?_
      refine rv_getR ff_X9_34 dX9_after_12 h (fun a3 h => ?_)
      refine rv_aload_n 0 dX9_after_15 rfl ?_
      refine rv_getR ff_X9_12 dX9_after_16 h (fun a4 h => ?_)
      refine rv_getR ff_X9_83 dX9_after_19 h (fun a5 h => ?_)
      obtain ⟨w7, h6, h⟩ := rBind h
      refine rv_callVv (k3 := 0) (n3 := 0) (st2 := []) caX5_copyFrom cvX5_copyFrom ml_X9_318 dX9_after_22 rfl (E_X5_copyFrom h6).2 (E_X5_copyFrom h6).1 rfl rfl rfl rfl rfl ?_
      clear h6
      refine rv_iconst (v := 0) dX9_after_25 (by decide) ?_
      refine rv_istore_n (l2 := [(2, .int 0), (0, .ref x0), (1, .int x1)]) dX9_after_26 rfl rfl ?_
      obtain ⟨K75, eK75, h⟩ := rLetE h
      have hK75 : ∀ (w : rW), K75 w = some (r0, w0) → rEv mX9_after 5 0 0 75 [(0, .ref x0), (1, .int x1)] [] w (rIs (some (.int r0)) w0) := by
        intro w8 h
        rw [eK75] at h
        refine rv_iload_n 1 dX9_after_75 rfl ?_
        refine rv_if_ne 87 dX9_after_76 (by decide) (fun c9 => ?_) (fun c9 => ?_)
        · replace h := rIfF h c9
          refine rv_iload_n 1 dX9_after_87 rfl ?_
          refine rv_iconst (v := 1) dX9_after_88 (by decide) ?_
          refine rv_icmp_ne 105 dX9_after_89 (by decide) (fun c10 => ?_) (fun c10 => ?_)
          · replace h := rIfF h c10
            refine rv_aload_n 0 dX9_after_105 rfl ?_
            refine rv_getR ff_X9_34 dX9_after_106 h (fun a11 h => ?_)
            obtain ⟨v13, h12, h⟩ := rBind h
            refine rv_callVr (k3 := 0) (n3 := 0) (st2 := []) caX5_index cvX5_index ml_X9_214 dX9_after_109 rfl (E_X5_index h12).2 (E_X5_index h12).1 rfl rfl rfl rfl rfl ?_
            clear h12
            exact rv_iret .int dX9_after_112 rfl rfl (rRetIw h)
          · replace h := rIfT h c10
            refine rv_aload_n 0 dX9_after_92 rfl ?_
            refine rv_getR ff_X9_34 dX9_after_93 h (fun a14 h => ?_)
            refine rv_getJ ff_X9_120 dX9_after_96 h (fun v15 h => ?_)
            obtain ⟨v17, h16, h⟩ := rBind h
            refine rv_callSr (k3 := 0) (n3 := 0) (st2 := []) (As := [.long v15]) caJ13_bitCount_95d88 csJ13_bitCount_95d88 ml_X9_139 dX9_after_99 rfl (E_J13_bitCount_95d88 h16) rfl rfl rfl rfl rfl ?_
            clear h16
            refine rv_goto 112 dX9_after_102 (by decide) ?_
            exact rv_iret .int dX9_after_112 rfl rfl (rRetIw h)
        · replace h := rIfT h c9
          refine rv_aload_n 0 dX9_after_79 rfl ?_
          refine rv_getR ff_X9_34 dX9_after_80 h (fun a18 h => ?_)
          obtain ⟨v20, h19, h⟩ := rBind h
          refine rv_callVr (k3 := 0) (n3 := 0) (st2 := []) caX5_volume cvX5_volume ml_X9_108 dX9_after_83 rfl (E_X5_volume h19).2 (E_X5_volume h19).1 rfl rfl rfl rfl rfl ?_
          clear h19
          exact rv_iret .int dX9_after_86 rfl rfl (rRetIw h)
      clear eK75
      exact rv_sub [1, 2, 0] rfl (E_X9_after_27 x0 x1 hK75 2000 0 w7 h)
    · replace h := rIfF h c2
      refine rv_iconst (v := (-1)) dX9_after_9 (by decide) ?_
      exact rv_iret .int dX9_after_10 rfl rfl (rRetIw h)
set_option maxRecDepth 20000 in
theorem E_X9_book {x0 : Nat} {x1 : Int32} {x2 : Int32} {r0 : Int32} {w0 : rW} {w : rW} (h : J_X9_book x0 x1 x2 w = some (r0, w0)) : (∃ fs, w[x0]? = some (cO 9 fs)) ∧ rMet mX9_book 1 0 0 [.ref x0, .int x1, .int x2] w (rIs (some (.int r0)) w0) := by
  unfold J_X9_book at h
  obtain ⟨hrc, h⟩ := rRc_some h
  refine ⟨hrc, ?_⟩
  refine rMet_of (by decide) rfl ?_
  refine rv_iload_n 1 dX9_book_0 rfl ?_
  refine rv_iconst (v := (-1)) dX9_book_1 (by decide) ?_
  refine rv_icmp_ne 16 dX9_book_2 (by decide) (fun c1 => ?_) (fun c1 => ?_)
  · replace h := rIfF h c1
    refine rv_aload_n 0 dX9_book_16 rfl ?_
    refine rv_getR ff_X9_12 dX9_book_17 h (fun a2 h => ?_)
    refine rv_getR ff_X9_27 dX9_book_20 h (fun a3 h => ?_)
    refine rv_iload_n 1 dX9_book_23 rfl ?_
    obtain ⟨b5, h4, h⟩ := rBind h
    refine rv_callVr (k3 := 0) (n3 := 0) (st2 := []) caX0_has cvX0_has ml_X9_89 dX9_book_24 rfl (E_X0_has h4).2 (E_X0_has h4).1 rfl rfl rfl rfl rfl ?_
    clear h4
    refine rv_if_ne 32 dX9_book_27 (by decide) (fun c6 => ?_) (fun c6 => ?_)
    · replace h := rIfF h c6
      refine rv_iload_n 2 dX9_book_32 rfl ?_
      obtain ⟨b8, h7, h⟩ := rBind h
      refine rv_callSr (k3 := 0) (n3 := 0) (st2 := []) (As := [.int x2]) caX9_isCount csX9_isCount ml_X9_93 dX9_book_33 rfl (E_X9_isCount h7) rfl rfl rfl rfl rfl ?_
      clear h7
      refine rv_if_ne 42 dX9_book_36 (by decide) (fun c9 => ?_) (fun c9 => ?_)
      · replace h := rIfF h c9
        refine rv_aload_n 0 dX9_book_42 rfl ?_
        refine rv_getR ff_X9_12 dX9_book_43 h (fun a10 h => ?_)
        refine rv_getR ff_X9_324 dX9_book_46 h (fun a11 h => ?_)
        refine rv_iload_n 1 dX9_book_49 rfl ?_
        refine rv_iload_n 2 dX9_book_50 rfl ?_
        obtain ⟨v13, w14, h12, h⟩ := rB2_some h
        refine rv_callVr (k3 := 0) (n3 := 0) (st2 := []) caX3_addRow cvX3_addRow ml_X9_285 dX9_book_51 rfl (E_X3_addRow h12).2 (E_X3_addRow h12).1 rfl rfl rfl rfl rfl ?_
        clear h12
        exact rv_iret .int dX9_book_54 rfl rfl (rRetIw h)
      · replace h := rIfT h c9
        refine rv_bipush (v := (-2)) dX9_book_39 (by decide) ?_
        exact rv_iret .int dX9_book_41 rfl rfl (rRetIw h)
    · replace h := rIfT h c6
      refine rv_iconst (v := (-1)) dX9_book_30 (by decide) ?_
      exact rv_iret .int dX9_book_31 rfl rfl (rRetIw h)
  · replace h := rIfT h c1
    refine rv_aload_n 0 dX9_book_5 rfl ?_
    refine rv_getR ff_X9_12 dX9_book_6 h (fun a15 h => ?_)
    refine rv_getR ff_X9_324 dX9_book_9 h (fun a16 h => ?_)
    obtain ⟨v18, w19, h17, h⟩ := rB2_some h
    refine rv_callVr (k3 := 0) (n3 := 0) (st2 := []) caX3_becomeEmpty cvX3_becomeEmpty ml_X9_281 dX9_book_12 rfl (E_X3_becomeEmpty h17).2 (E_X3_becomeEmpty h17).1 rfl rfl rfl rfl rfl ?_
    clear h17
    exact rv_iret .int dX9_book_15 rfl rfl (rRetIw h)
set_option maxRecDepth 20000 in
theorem E_X9_looked_2 {r0 : Int32}  (x0 : Nat) (w : rW)   : ∀ (f : Nat) (x1 : Int32), J_X9_looked_2 x0 w f x1 = some r0 → rEv mX9_looked 1 0 0 2 [(0, .ref x0), (1, .int x1)] [] w (rIs (some (.int r0)) w) := by
  intro f
  induction f with
  | zero =>
    intro x1 h
    exact absurd (show (none : Option Int32) = some r0 from h) (by simp)
  | succ f ih =>
    intro x1 h
    rw [J_X9_looked_2] at h
    refine rv_iload_n 1 dX9_looked_2 rfl ?_
    refine rv_aload_n 0 dX9_looked_3 rfl ?_
    refine rv_getR ff_X9_12 dX9_looked_4 h (fun a1 h => ?_)
    refine rv_getR ff_X9_324 dX9_looked_7 h (fun a2 h => ?_)
    refine rv_getI ff_X9_288 dX9_looked_10 h (fun v3 h => ?_)
    refine rv_icmp_ge 78 dX9_looked_13 (by decide) (fun c4 => ?_) (fun c4 => ?_)
    · replace h := rIfT h c4
      refine rv_bipush (v := (-5)) dX9_looked_78 (by decide) ?_
      exact rv_iret .int dX9_looked_80 rfl rfl (rRetIp h)
    · replace h := rIfF h c4
      refine rv_aload_n 0 dX9_looked_16 rfl ?_
      refine rv_getR ff_X9_12 dX9_looked_17 h (fun a5 h => ?_)
      refine rv_getR ff_X9_324 dX9_looked_20 h (fun a6 h => ?_)
      refine rv_getR ff_X9_289 dX9_looked_23 h (fun a7 h => ?_)
      refine rv_iload_n 1 dX9_looked_26 rfl ?_
      refine rv_iaload dX9_looked_27 h (fun v8 h => ?_)
      refine rv_istore_n (l2 := [(2, .int v8), (0, .ref x0), (1, .int x1)]) dX9_looked_28 rfl rfl ?_
      refine rv_aload_n 1 dX9_looked_29 rfl ?_
      refine rv_getR ff_X9_12 dX9_looked_30 h (fun a9 h => ?_)
      refine rv_getR ff_X9_27 dX9_looked_33 h (fun a10 h => ?_)
      refine rv_iload_n 0 dX9_looked_36 rfl ?_
      obtain ⟨b12, h11, h⟩ := rBind h
      refine rv_callVr (k3 := 0) (n3 := 0) (st2 := []) caX0_has cvX0_has ml_X9_89 dX9_looked_37 rfl (E_X0_has h11).2 (E_X0_has h11).1 rfl rfl rfl rfl rfl ?_
      clear h11
      refine rv_if_eq 70 dX9_looked_40 (by decide) (fun c13 => ?_) (fun c13 => ?_)
      · replace h := rIfT h c13
        refine rv_iload_n 2 dX9_looked_70 rfl ?_
        exact rv_iret .int dX9_looked_71 rfl rfl (rRetIp h)
      · replace h := rIfF h c13
        refine rv_aload_n 1 dX9_looked_43 rfl ?_
        refine rv_getR ff_X9_12 dX9_looked_44 h (fun a14 h => ?_)
        refine rv_getR ff_X9_83 dX9_looked_47 h (fun a15 h => ?_)
        refine rv_getR ff_X9_96 dX9_looked_50 h (fun a16 h => ?_)
        refine rv_iload_n 0 dX9_looked_53 rfl ?_
        refine rv_iaload dX9_looked_54 h (fun v17 h => ?_)
        refine rv_aload_n 1 dX9_looked_55 rfl ?_
        refine rv_getR ff_X9_12 dX9_looked_56 h (fun a18 h => ?_)
        refine rv_getR ff_X9_324 dX9_looked_59 h (fun a19 h => ?_)
        refine rv_getR ff_X9_292 dX9_looked_62 h (fun a20 h => ?_)
        refine rv_iload_n 2 dX9_looked_65 rfl ?_
        refine rv_iaload dX9_looked_66 h (fun v21 h => ?_)
        refine rv_icmp_eq 72 dX9_looked_67 (by decide) (fun c22 => ?_) (fun c22 => ?_)
        · replace h := rIfT h c22
          obtain ⟨v23, ev23, h⟩ := rLetE h
          refine rv_iinc (v := v23) (l2 := [(1, .int v23), (2, .int v8), (0, .ref x0)]) 2 dX9_looked_72 rfl (by rw [ev23]; rfl) rfl rfl ?_
          clear ev23
          refine rv_goto 2 dX9_looked_75 (by decide) ?_
          exact rv_sub [2, 0] rfl (ih v23 h)
        · replace h := rIfF h c22
          refine rv_iload_n 2 dX9_looked_70 rfl ?_
          exact rv_iret .int dX9_looked_71 rfl rfl (rRetIp h)
set_option maxRecDepth 20000 in
theorem E_X9_looked {x0 : Nat} {r0 : Int32} {w : rW} (h : J_X9_looked x0 w = some r0) : (∃ fs, w[x0]? = some (cO 9 fs)) ∧ rMet mX9_looked 1 0 0 [.ref x0] w (rIs (some (.int r0)) w) := by
  unfold J_X9_looked at h
  obtain ⟨hrc, h⟩ := rRc_some h
  refine ⟨hrc, ?_⟩
  refine rMet_of (by decide) rfl ?_
  refine rv_iconst (v := 0) dX9_looked_0 (by decide) ?_
  refine rv_istore_n (l2 := [(1, .int 0), (0, .ref x0)]) dX9_looked_1 rfl rfl ?_
  exact rv_sub [1, 0] rfl (E_X9_looked_2 x0 w 2000 0 h)
set_option maxRecDepth 20000 in
theorem E_X9_isTape {x0 : Int32} {r0 : Bool} {w : rW} (h : J_X9_isTape x0 w = some r0) : rMet mX9_isTape 0 0 0 [.int x0] w (rIs (some (.int (bi r0))) w) := by
  unfold J_X9_isTape at h
  refine rMet_of (by decide) rfl ?_
  refine rv_iload_n 0 dX9_isTape_0 rfl ?_
  obtain ⟨K14, eK14, h⟩ := rLetE h
  have hK14 : K14 = some r0 → rEv mX9_isTape 0 0 0 14 [] [] w (rIs (some (.int (bi r0))) w) := by
    intro h
    rw [eK14] at h
    refine rv_iconst (v := 0) dX9_isTape_14 (by decide) ?_
    exact rv_iret .boolean dX9_isTape_15 rfl (by decide) (rRetZp (x := 0) h rfl)
  clear eK14
  refine rv_if_lt 14 dX9_isTape_1 (by decide) (fun c1 => ?_) (fun c1 => ?_)
  · replace h := rIfT h c1
    exact rv_sub [] rfl (hK14 h)
  · replace h := rIfF h c1
    refine rv_iload_n 0 dX9_isTape_4 rfl ?_
    refine rv_bipush (v := 6) dX9_isTape_5 (by decide) ?_
    refine rv_icmp_ge 14 dX9_isTape_7 (by decide) (fun c2 => ?_) (fun c2 => ?_)
    · replace h := rIfT h c2
      exact rv_sub [] rfl (hK14 h)
    · replace h := rIfF h c2
      refine rv_iconst (v := 1) dX9_isTape_10 (by decide) ?_
      refine rv_goto 15 dX9_isTape_11 (by decide) ?_
      exact rv_iret .boolean dX9_isTape_15 rfl (by decide) (rRetZp (x := 1) h rfl)
set_option maxRecDepth 20000 in
theorem E_X9_judge_63 {r0 : Int32}  (x0 : Nat) (x2 : Int32) (x3 : Nat) (x4 : Int32) (w : rW)   : ∀ (f : Nat) (x5 : Int32), J_X9_judge_63 x0 x2 x3 x4 w f x5 = some r0 → rEv mX9_judge 1 0 0 63 [(0, .ref x0), (2, .int x2), (3, .ref x3), (4, .int x4), (5, .int x5)] [] w (rIs (some (.int r0)) w) := by
  intro f
  induction f with
  | zero =>
    intro x5 h
    exact absurd (show (none : Option Int32) = some r0 from h) (by simp)
  | succ f ih =>
    intro x5 h
    rw [J_X9_judge_63] at h
    refine rv_iload 4 dX9_judge_63 rfl ?_
    refine rv_aload_n 0 dX9_judge_65 rfl ?_
    refine rv_getR ff_X9_12 dX9_judge_66 h (fun a12 h => ?_)
    refine rv_getR ff_X9_27 dX9_judge_69 h (fun a13 h => ?_)
    refine rv_getI ff_X9_202 dX9_judge_72 h (fun v14 h => ?_)
    refine rv_icmp_ge 127 dX9_judge_75 (by decide) (fun c15 => ?_) (fun c15 => ?_)
    · replace h := rIfT h c15
      refine rv_bipush (v := (-5)) dX9_judge_127 (by decide) ?_
      exact rv_iret .int dX9_judge_129 rfl rfl (rRetIp h)
    · replace h := rIfF h c15
      refine rv_iload 4 dX9_judge_78 rfl ?_
      refine rv_iload 3 dX9_judge_80 rfl ?_
      refine rv_icmp_lt 91 dX9_judge_82 (by decide) (fun c16 => ?_) (fun c16 => ?_)
      · replace h := rIfT h c16
        refine rv_aload_n 2 dX9_judge_91 rfl ?_
        refine rv_getR ff_X9_337 dX9_judge_92 h (fun a17 h => ?_)
        refine rv_iload_n 1 dX9_judge_95 rfl ?_
        refine rv_iload 4 dX9_judge_96 rfl ?_
        refine rv_iadd dX9_judge_98 ?_
        refine rv_laload dX9_judge_99 h (fun v18 h => ?_)
        refine rv_aload_n 0 dX9_judge_100 rfl ?_
        refine rv_getR ff_X9_12 dX9_judge_101 h (fun a19 h => ?_)
        refine rv_getR ff_X9_83 dX9_judge_104 h (fun a20 h => ?_)
        refine rv_getR ff_X9_96 dX9_judge_107 h (fun a21 h => ?_)
        refine rv_iload 4 dX9_judge_110 rfl ?_
        refine rv_iaload dX9_judge_112 h (fun v22 h => ?_)
        refine rv_i2l dX9_judge_113 ?_
        refine rv_lcmp dX9_judge_114 ?_
        refine rv_if_eq 121 dX9_judge_115 (by decide) (fun c23 => ?_) (fun c23 => ?_)
        · replace h := rIfT h c23
          obtain ⟨v24, ev24, h⟩ := rLetE h
          refine rv_iinc (v := v24) (l2 := [(5, .int v24), (0, .ref x0), (2, .int x2), (3, .ref x3), (4, .int x4)]) 4 dX9_judge_121 rfl (by rw [ev24]; rfl) rfl rfl ?_
          clear ev24
          refine rv_goto 63 dX9_judge_124 (by decide) ?_
          exact rv_sub [1, 2, 3, 4, 0] rfl (ih v24 h)
        · replace h := rIfF h c23
          refine rv_iload 4 dX9_judge_118 rfl ?_
          exact rv_iret .int dX9_judge_120 rfl rfl (rRetIp h)
      · replace h := rIfF h c16
        refine rv_bipush (v := 100) dX9_judge_85 (by decide) ?_
        refine rv_iload 4 dX9_judge_87 rfl ?_
        refine rv_iadd dX9_judge_89 ?_
        exact rv_iret .int dX9_judge_90 rfl rfl (rRetIp h)
set_option maxRecDepth 20000 in
theorem E_X9_judge {x0 : Nat} {x1 : Int32} {x2 : Int32} {r0 : Int32} {w : rW} (h : J_X9_judge x0 x1 x2 w = some r0) : (∃ fs, w[x0]? = some (cO 9 fs)) ∧ rMet mX9_judge 1 0 0 [.ref x0, .int x1, .int x2] w (rIs (some (.int r0)) w) := by
  unfold J_X9_judge at h
  obtain ⟨hrc, h⟩ := rRc_some h
  refine ⟨hrc, ?_⟩
  refine rMet_of (by decide) rfl ?_
  refine rv_iload_n 1 dX9_judge_0 rfl ?_
  obtain ⟨b2, h1, h⟩ := rBind h
  refine rv_callSr (k3 := 0) (n3 := 0) (st2 := []) (As := [.int x1]) caX9_isTape csX9_isTape ml_X9_327 dX9_judge_1 rfl (E_X9_isTape h1) rfl rfl rfl rfl rfl ?_
  clear h1
  refine rv_if_ne 9 dX9_judge_4 (by decide) (fun c3 => ?_) (fun c3 => ?_)
  · replace h := rIfF h c3
    refine rv_aload_n 0 dX9_judge_9 rfl ?_
    refine rv_getR ff_X9_68 dX9_judge_10 h (fun a4 h => ?_)
    refine rv_iload_n 1 dX9_judge_13 rfl ?_
    refine rv_aaload dX9_judge_14 h (fun a5 h => ?_)
    refine rv_astore_n (l2 := [(3, .ref a5), (0, .ref x0), (1, .int x1), (2, .int x2)]) dX9_judge_15 rfl rfl ?_
    refine rv_aload_n 0 dX9_judge_16 rfl ?_
    obtain ⟨b7, h6, h⟩ := rBind h
    refine rv_callVr (k3 := 0) (n3 := 0) (st2 := []) caX7_isEmpty cvX7_isEmpty ml_X9_330 dX9_judge_17 rfl (E_X7_isEmpty h6).2 (E_X7_isEmpty h6).1 rfl rfl rfl rfl rfl ?_
    clear h6
    refine rv_if_eq 26 dX9_judge_20 (by decide) (fun c8 => ?_) (fun c8 => ?_)
    · replace h := rIfT h c8
      refine rv_aload_n 0 dX9_judge_26 rfl ?_
      refine rv_getI ff_X9_333 dX9_judge_27 h (fun v9 h => ?_)
      refine rv_if_eq 36 dX9_judge_30 (by decide) (fun c10 => ?_) (fun c10 => ?_)
      · replace h := rIfT h c10
        refine rv_iload_n 3 dX9_judge_36 rfl ?_
        obtain ⟨K58, eK58, h⟩ := rLetE h
        have hK58 : ∀ (z0 : Int32), K58 z0 = some r0 → rEv mX9_judge 1 0 0 58 [(0, .ref x0), (2, .int x2), (3, .ref a5)] [.int z0] w (rIs (some (.int r0)) w) := by
          intro z11 h
          rw [eK58] at h
          refine rv_istore (l2 := [(4, .int z11), (0, .ref x0), (2, .int x2), (3, .ref a5)]) dX9_judge_58 rfl rfl ?_
          refine rv_iconst (v := 0) dX9_judge_60 (by decide) ?_
          refine rv_istore (l2 := [(5, .int 0), (4, .int z11), (0, .ref x0), (2, .int x2), (3, .ref a5)]) dX9_judge_61 rfl rfl ?_
          exact rv_sub [2, 3, 4, 1, 0] rfl (E_X9_judge_63 x0 x2 a5 z11 w 2000 0 h)
        clear eK58
        obtain ⟨K48, eK48, h⟩ := rLetE h
        have hK48 : K48 = some r0 → rEv mX9_judge 1 0 0 48 [(0, .ref x0), (2, .int x2), (3, .ref a5)] [] w (rIs (some (.int r0)) w) := by
          intro h
          rw [eK48] at h
          refine rv_iconst (v := 0) dX9_judge_48 (by decide) ?_
          refine rv_goto 58 dX9_judge_49 (by decide) ?_
          exact rv_sub [0, 1, 2] rfl (hK58 0 h)
        clear eK48
        refine rv_if_lt 48 dX9_judge_37 (by decide) (fun c25 => ?_) (fun c25 => ?_)
        · replace h := rIfT h c25
          exact rv_sub [1, 3, 0] rfl (hK48 h)
        · replace h := rIfF h c25
          refine rv_iload_n 3 dX9_judge_40 rfl ?_
          refine rv_aload_n 0 dX9_judge_41 rfl ?_
          refine rv_getI ff_X9_336 dX9_judge_42 h (fun v26 h => ?_)
          refine rv_icmp_le 52 dX9_judge_45 (by decide) (fun c27 => ?_) (fun c27 => ?_)
          · replace h := rIfT h c27
            refine rv_aload_n 0 dX9_judge_52 rfl ?_
            refine rv_getI ff_X9_336 dX9_judge_53 h (fun v28 h => ?_)
            refine rv_iload_n 3 dX9_judge_56 rfl ?_
            refine rv_isub dX9_judge_57 ?_
            exact rv_sub [1, 3, 0] rfl (hK58 (v28 - x2) h)
          · replace h := rIfF h c27
            exact rv_sub [1, 3, 0] rfl (hK48 h)
      · replace h := rIfF h c10
        refine rv_bipush (v := (-12)) dX9_judge_33 (by decide) ?_
        exact rv_iret .int dX9_judge_35 rfl rfl (rRetIp h)
    · replace h := rIfF h c8
      refine rv_bipush (v := 100) dX9_judge_23 (by decide) ?_
      exact rv_iret .int dX9_judge_25 rfl rfl (rRetIp h)
  · replace h := rIfT h c3
    refine rv_iconst (v := (-1)) dX9_judge_7 (by decide) ?_
    exact rv_iret .int dX9_judge_8 rfl rfl (rRetIp h)
set_option maxRecDepth 20000 in
theorem E_X9_image {x0 : Nat} {r0 : Int32} {w0 : rW} {w : rW} (h : J_X9_image x0 w = some (r0, w0)) : (∃ fs, w[x0]? = some (cO 9 fs)) ∧ rMet mX9_image 4 0 0 [.ref x0] w (rIs (some (.int r0)) w0) := by
  unfold J_X9_image at h
  obtain ⟨hrc, h⟩ := rRc_some h
  refine ⟨hrc, ?_⟩
  refine rMet_of (by decide) rfl ?_
  refine rv_aload_n 0 dX9_image_0 rfl ?_
  refine rv_getR ff_X9_18 dX9_image_1 h (fun a1 h => ?_)
  refine rv_aload_n 0 dX9_image_4 rfl ?_
  refine rv_getR ff_X9_12 dX9_image_5 h (fun a2 h => ?_)
  obtain ⟨w4, h3, h⟩ := rBind h
  refine rv_callVv (k3 := 0) (n3 := 0) (st2 := []) caX6_copyFrom cvX6_copyFrom ml_X9_341 dX9_image_8 rfl (E_X6_copyFrom h3).2 (E_X6_copyFrom h3).1 rfl rfl rfl rfl rfl ?_
  clear h3
  refine rv_aload_n 0 dX9_image_11 rfl ?_
  refine rv_iconst (v := 1) dX9_image_12 (by decide) ?_
  refine rv_putZ ff_X9_21 (fp_X9_2 _) dX9_image_13 (by decide) (by decide) h (fun w5 h => ?_)
  refine rv_aload_n 0 dX9_image_16 rfl ?_
  refine rv_getR ff_X9_12 dX9_image_17 h (fun a6 h => ?_)
  refine rv_getR ff_X9_83 dX9_image_20 h (fun a7 h => ?_)
  refine rv_getJ ff_X9_120 dX9_image_23 h (fun v8 h => ?_)
  obtain ⟨v10, h9, h⟩ := rBind h
  refine rv_callSr (k3 := 0) (n3 := 0) (st2 := []) (As := [.long v8]) caJ13_bitCount_95d88 csJ13_bitCount_95d88 ml_X9_139 dX9_image_26 rfl (E_J13_bitCount_95d88 h9) rfl rfl rfl rfl rfl ?_
  clear h9
  exact rv_iret .int dX9_image_29 rfl rfl (rRetIw h)
set_option maxRecDepth 20000 in
theorem E_X9_undo {x0 : Nat} {r0 : Int32} {w0 : rW} {w : rW} (h : J_X9_undo x0 w = some (r0, w0)) : (∃ fs, w[x0]? = some (cO 9 fs)) ∧ rMet mX9_undo 4 0 0 [.ref x0] w (rIs (some (.int r0)) w0) := by
  unfold J_X9_undo at h
  obtain ⟨hrc, h⟩ := rRc_some h
  refine ⟨hrc, ?_⟩
  refine rMet_of (by decide) rfl ?_
  refine rv_aload_n 0 dX9_undo_0 rfl ?_
  refine rv_getI ff_X9_21 dX9_undo_1 h (fun v1 h => ?_)
  refine rv_if_ne 10 dX9_undo_4 (by decide) (fun c2 => ?_) (fun c2 => ?_)
  · replace h := rIfF h c2
    refine rv_aload_n 0 dX9_undo_10 rfl ?_
    refine rv_getR ff_X9_12 dX9_undo_11 h (fun a3 h => ?_)
    refine rv_aload_n 0 dX9_undo_14 rfl ?_
    refine rv_getR ff_X9_18 dX9_undo_15 h (fun a4 h => ?_)
    obtain ⟨w6, h5, h⟩ := rBind h
    refine rv_callVv (k3 := 0) (n3 := 0) (st2 := []) caX6_copyFrom cvX6_copyFrom ml_X9_341 dX9_undo_18 rfl (E_X6_copyFrom h5).2 (E_X6_copyFrom h5).1 rfl rfl rfl rfl rfl ?_
    clear h5
    refine rv_aload_n 0 dX9_undo_21 rfl ?_
    refine rv_getR ff_X9_12 dX9_undo_22 h (fun a7 h => ?_)
    refine rv_getR ff_X9_83 dX9_undo_25 h (fun a8 h => ?_)
    refine rv_getJ ff_X9_120 dX9_undo_28 h (fun v9 h => ?_)
    obtain ⟨v11, h10, h⟩ := rBind h
    refine rv_callSr (k3 := 0) (n3 := 0) (st2 := []) (As := [.long v9]) caJ13_bitCount_95d88 csJ13_bitCount_95d88 ml_X9_139 dX9_undo_31 rfl (E_J13_bitCount_95d88 h10) rfl rfl rfl rfl rfl ?_
    clear h10
    exact rv_iret .int dX9_undo_34 rfl rfl (rRetIw h)
  · replace h := rIfT h c2
    refine rv_bipush (v := (-3)) dX9_undo_7 (by decide) ?_
    exact rv_iret .int dX9_undo_9 rfl rfl (rRetIw h)
set_option maxRecDepth 20000 in
theorem E_X9_counted {x0 : Nat} {x1 : Int32} {r0 : Int32} {w : rW} (h : J_X9_counted x0 x1 w = some r0) : (∃ fs, w[x0]? = some (cO 9 fs)) ∧ rMet mX9_counted 0 0 0 [.ref x0, .int x1] w (rIs (some (.int r0)) w) := by
  unfold J_X9_counted at h
  obtain ⟨hrc, h⟩ := rRc_some h
  refine ⟨hrc, ?_⟩
  refine rMet_of (by decide) rfl ?_
  refine rv_iload_n 1 dX9_counted_0 rfl ?_
  refine rIf h (fun c1 h => ?_) (fun c1 h => ?_)
  · refine rv_tswIn 32 dX9_counted_1 c1 (by decide) (by decide) rfl (by decide) ?_
    refine rv_aload_n 0 dX9_counted_32 rfl ?_
    refine rv_getR ff_X9_12 dX9_counted_33 h (fun a2 h => ?_)
    refine rv_getR ff_X9_277 dX9_counted_36 h (fun a3 h => ?_)
    refine rv_getI ff_X9_288 dX9_counted_39 h (fun v4 h => ?_)
    exact rv_iret .int dX9_counted_42 rfl rfl (rRetIp h)
  refine rIf h (fun c5 h => ?_) (fun c5 h => ?_)
  · refine rv_tswIn 43 dX9_counted_1 c5 (by decide) (by decide) rfl (by decide) ?_
    refine rv_aload_n 0 dX9_counted_43 rfl ?_
    refine rv_getR ff_X9_12 dX9_counted_44 h (fun a6 h => ?_)
    refine rv_getR ff_X9_315 dX9_counted_47 h (fun a7 h => ?_)
    refine rv_getI ff_X9_288 dX9_counted_50 h (fun v8 h => ?_)
    exact rv_iret .int dX9_counted_53 rfl rfl (rRetIp h)
  refine rIf h (fun c9 h => ?_) (fun c9 h => ?_)
  · refine rv_tswIn 54 dX9_counted_1 c9 (by decide) (by decide) rfl (by decide) ?_
    refine rv_aload_n 0 dX9_counted_54 rfl ?_
    refine rv_getR ff_X9_12 dX9_counted_55 h (fun a10 h => ?_)
    refine rv_getR ff_X9_324 dX9_counted_58 h (fun a11 h => ?_)
    refine rv_getI ff_X9_288 dX9_counted_61 h (fun v12 h => ?_)
    exact rv_iret .int dX9_counted_64 rfl rfl (rRetIp h)
  refine rIf h (fun c13 h => ?_) (fun c13 h => ?_)
  · refine rv_tswIn 65 dX9_counted_1 c13 (by decide) (by decide) rfl (by decide) ?_
    refine rv_aload_n 0 dX9_counted_65 rfl ?_
    refine rv_getR ff_X9_62 dX9_counted_66 h (fun a14 h => ?_)
    refine rv_getI ff_X9_159 dX9_counted_69 h (fun v15 h => ?_)
    exact rv_iret .int dX9_counted_72 rfl rfl (rRetIp h)
  refine rv_tswOut 73 [0, 1, 2, 3] dX9_counted_1 (by decide) (by decide) (by decide) (fun v hv => ?_) ?_
  · simp only [List.mem_cons, List.not_mem_nil, or_false] at hv
    rcases hv with rfl | rfl | rfl | rfl
    · exact c1
    · exact c5
    · exact c9
    · exact c13
  refine rv_bipush (v := (-2)) dX9_counted_73 (by decide) ?_
  exact rv_iret .int dX9_counted_75 rfl rfl (rRetIp h)
set_option maxRecDepth 20000 in
theorem E_X9_tape {x0 : Nat} {x1 : Int32} {x2 : Int32} {x3 : Int32} {r0 : Int32} {w0 : rW} {w : rW} (h : J_X9_tape x0 x1 x2 x3 w = some (r0, w0)) : (∃ fs, w[x0]? = some (cO 9 fs)) ∧ rMet mX9_tape 2 0 0 [.ref x0, .int x1, .int x2, .int x3] w (rIs (some (.int r0)) w0) := by
  unfold J_X9_tape at h
  obtain ⟨hrc, h⟩ := rRc_some h
  refine ⟨hrc, ?_⟩
  refine rMet_of (by decide) rfl ?_
  refine rv_iload_n 1 dX9_tape_0 rfl ?_
  obtain ⟨b2, h1, h⟩ := rBind h
  refine rv_callSr (k3 := 0) (n3 := 0) (st2 := []) (As := [.int x1]) caX9_isTape csX9_isTape ml_X9_327 dX9_tape_1 rfl (E_X9_isTape h1) rfl rfl rfl rfl rfl ?_
  clear h1
  refine rv_if_ne 9 dX9_tape_4 (by decide) (fun c3 => ?_) (fun c3 => ?_)
  · replace h := rIfF h c3
    refine rv_iload_n 2 dX9_tape_9 rfl ?_
    refine rv_iconst (v := (-1)) dX9_tape_10 (by decide) ?_
    refine rv_icmp_ne 27 dX9_tape_11 (by decide) (fun c4 => ?_) (fun c4 => ?_)
    · replace h := rIfF h c4
      refine rv_iload_n 2 dX9_tape_27 rfl ?_
      refine rv_if_lt 42 dX9_tape_28 (by decide) (fun c5 => ?_) (fun c5 => ?_)
      · replace h := rIfT h c5
        refine rv_bipush (v := (-2)) dX9_tape_42 (by decide) ?_
        exact rv_iret .int dX9_tape_44 rfl rfl (rRetIw h)
      · replace h := rIfF h c5
        refine rv_iload_n 2 dX9_tape_31 rfl ?_
        refine rv_iconst (v := 4) dX9_tape_32 (by decide) ?_
        refine rv_icmp_gt 42 dX9_tape_33 (by decide) (fun c6 => ?_) (fun c6 => ?_)
        · replace h := rIfT h c6
          refine rv_bipush (v := (-2)) dX9_tape_42 (by decide) ?_
          exact rv_iret .int dX9_tape_44 rfl rfl (rRetIw h)
        · replace h := rIfF h c6
          refine rv_iload_n 3 dX9_tape_36 rfl ?_
          refine rv_bipush (v := 60) dX9_tape_37 (by decide) ?_
          refine rv_icmp_le 45 dX9_tape_39 (by decide) (fun c7 => ?_) (fun c7 => ?_)
          · replace h := rIfT h c7
            refine rv_iload_n 3 dX9_tape_45 rfl ?_
            refine rv_if_ge 52 dX9_tape_46 (by decide) (fun c8 => ?_) (fun c8 => ?_)
            · replace h := rIfT h c8
              refine rv_aload_n 0 dX9_tape_52 rfl ?_
              refine rv_getR ff_X9_68 dX9_tape_53 h (fun a9 h => ?_)
              refine rv_iload_n 1 dX9_tape_56 rfl ?_
              refine rv_aaload dX9_tape_57 h (fun a10 h => ?_)
              refine rv_iload_n 2 dX9_tape_58 rfl ?_
              refine rv_iload_n 3 dX9_tape_59 rfl ?_
              obtain ⟨w12, h11, h⟩ := rBind h
              refine rv_callVv (k3 := 0) (n3 := 0) (st2 := []) caX7_become cvX7_become ml_X9_344 dX9_tape_60 rfl (E_X7_become h11).2 (E_X7_become h11).1 rfl rfl rfl rfl rfl ?_
              clear h11
              refine rv_iconst (v := 1) dX9_tape_63 (by decide) ?_
              exact rv_iret .int dX9_tape_64 rfl rfl (rRetIw h)
            · replace h := rIfF h c8
              refine rv_bipush (v := (-14)) dX9_tape_49 (by decide) ?_
              exact rv_iret .int dX9_tape_51 rfl rfl (rRetIw h)
          · replace h := rIfF h c7
            refine rv_bipush (v := (-2)) dX9_tape_42 (by decide) ?_
            exact rv_iret .int dX9_tape_44 rfl rfl (rRetIw h)
    · replace h := rIfT h c4
      refine rv_aload_n 0 dX9_tape_14 rfl ?_
      refine rv_getR ff_X9_68 dX9_tape_15 h (fun a13 h => ?_)
      refine rv_iload_n 1 dX9_tape_18 rfl ?_
      refine rv_aaload dX9_tape_19 h (fun a14 h => ?_)
      refine rv_iconst (v := (-1)) dX9_tape_20 (by decide) ?_
      refine rv_iconst (v := 0) dX9_tape_21 (by decide) ?_
      obtain ⟨w16, h15, h⟩ := rBind h
      refine rv_callVv (k3 := 0) (n3 := 0) (st2 := []) caX7_become cvX7_become ml_X9_344 dX9_tape_22 rfl (E_X7_become h15).2 (E_X7_become h15).1 rfl rfl rfl rfl rfl ?_
      clear h15
      refine rv_iconst (v := 1) dX9_tape_25 (by decide) ?_
      exact rv_iret .int dX9_tape_26 rfl rfl (rRetIw h)
  · replace h := rIfT h c3
    refine rv_iconst (v := (-1)) dX9_tape_7 (by decide) ?_
    exact rv_iret .int dX9_tape_8 rfl rfl (rRetIw h)
set_option maxRecDepth 20000 in
theorem E_X9_item {x0 : Nat} {x1 : Int32} {x2 : Int32} {x3 : Int64} {r0 : Int32} {w0 : rW} {w : rW} (h : J_X9_item x0 x1 x2 x3 w = some (r0, w0)) : (∃ fs, w[x0]? = some (cO 9 fs)) ∧ rMet mX9_item 1 0 0 [.ref x0, .int x1, .int x2, .long x3] w (rIs (some (.int r0)) w0) := by
  unfold J_X9_item at h
  obtain ⟨hrc, h⟩ := rRc_some h
  refine ⟨hrc, ?_⟩
  refine rMet_of (by decide) rfl ?_
  refine rv_iload_n 1 dX9_item_0 rfl ?_
  obtain ⟨b2, h1, h⟩ := rBind h
  refine rv_callSr (k3 := 0) (n3 := 0) (st2 := []) (As := [.int x1]) caX9_isTape csX9_isTape ml_X9_327 dX9_item_1 rfl (E_X9_isTape h1) rfl rfl rfl rfl rfl ?_
  clear h1
  refine rv_if_ne 9 dX9_item_4 (by decide) (fun c3 => ?_) (fun c3 => ?_)
  · replace h := rIfF h c3
    refine rv_aload_n 0 dX9_item_9 rfl ?_
    refine rv_getR ff_X9_68 dX9_item_10 h (fun a4 h => ?_)
    refine rv_iload_n 1 dX9_item_13 rfl ?_
    refine rv_aaload dX9_item_14 h (fun a5 h => ?_)
    refine rv_astore (l2 := [(5, .ref a5), (0, .ref x0), (1, .int x1), (2, .int x2), (3, .long x3)]) dX9_item_15 rfl rfl ?_
    refine rv_aload 0 dX9_item_17 rfl ?_
    obtain ⟨b7, h6, h⟩ := rBind h
    refine rv_callVr (k3 := 0) (n3 := 0) (st2 := []) caX7_isEmpty cvX7_isEmpty ml_X9_330 dX9_item_19 rfl (E_X7_isEmpty h6).2 (E_X7_isEmpty h6).1 rfl rfl rfl rfl rfl ?_
    clear h6
    refine rv_if_eq 28 dX9_item_22 (by decide) (fun c8 => ?_) (fun c8 => ?_)
    · replace h := rIfT h c8
      refine rv_aload 0 dX9_item_28 rfl ?_
      refine rv_iload_n 3 dX9_item_30 rfl ?_
      obtain ⟨b10, h9, h⟩ := rBind h
      refine rv_callVr (k3 := 0) (n3 := 0) (st2 := []) caX7_hasPlace cvX7_hasPlace ml_X9_346 dX9_item_31 rfl (E_X7_hasPlace h9).2 (E_X7_hasPlace h9).1 rfl rfl rfl rfl rfl ?_
      clear h9
      refine rv_if_ne 40 dX9_item_34 (by decide) (fun c11 => ?_) (fun c11 => ?_)
      · replace h := rIfF h c11
        refine rv_aload 0 dX9_item_40 rfl ?_
        refine rv_getR ff_X9_337 dX9_item_42 h (fun a12 h => ?_)
        refine rv_iload_n 3 dX9_item_45 rfl ?_
        refine rv_aload 0 dX9_item_46 rfl ?_
        refine rv_lload_n 4 dX9_item_48 rfl ?_
        obtain ⟨v14, h13, h⟩ := rBind h
        refine rv_callVr (k3 := 0) (n3 := 0) (st2 := [.int x2, .ref a12]) caX7_asItem cvX7_asItem ml_X9_349 dX9_item_49 rfl (E_X7_asItem h13).2 (E_X7_asItem h13).1 rfl rfl rfl rfl rfl ?_
        clear h13
        refine rv_lastore dX9_item_52 h (fun w15 h => ?_)
        refine rv_iconst (v := 1) dX9_item_53 (by decide) ?_
        exact rv_iret .int dX9_item_54 rfl rfl (rRetIw h)
      · replace h := rIfT h c11
        refine rv_bipush (v := (-13)) dX9_item_37 (by decide) ?_
        exact rv_iret .int dX9_item_39 rfl rfl (rRetIw h)
    · replace h := rIfF h c8
      refine rv_bipush (v := (-11)) dX9_item_25 (by decide) ?_
      exact rv_iret .int dX9_item_27 rfl rfl (rRetIw h)
  · replace h := rIfT h c3
    refine rv_iconst (v := (-1)) dX9_item_7 (by decide) ?_
    exact rv_iret .int dX9_item_8 rfl rfl (rRetIw h)
set_option maxRecDepth 20000 in
theorem E_X9_peek {x0 : Nat} {x1 : Int32} {x2 : Int32} {r0 : Int64} {w : rW} (h : J_X9_peek x0 x1 x2 w = some r0) : (∃ fs, w[x0]? = some (cO 9 fs)) ∧ rMet mX9_peek 1 0 0 [.ref x0, .int x1, .int x2] w (rIs (some (.long r0)) w) := by
  unfold J_X9_peek at h
  obtain ⟨hrc, h⟩ := rRc_some h
  refine ⟨hrc, ?_⟩
  refine rMet_of (by decide) rfl ?_
  refine rv_iload_n 1 dX9_peek_0 rfl ?_
  obtain ⟨b2, h1, h⟩ := rBind h
  refine rv_callSr (k3 := 0) (n3 := 0) (st2 := []) (As := [.int x1]) caX9_isTape csX9_isTape ml_X9_327 dX9_peek_1 rfl (E_X9_isTape h1) rfl rfl rfl rfl rfl ?_
  clear h1
  refine rv_if_eq 20 dX9_peek_4 (by decide) (fun c3 => ?_) (fun c3 => ?_)
  · replace h := rIfT h c3
    refine rv_ldc2 dX9_peek_20 kl_X9_306 ?_
    exact rv_lret dX9_peek_23 rfl (rRetJp h)
  · replace h := rIfF h c3
    refine rv_aload_n 0 dX9_peek_7 rfl ?_
    refine rv_getR ff_X9_68 dX9_peek_8 h (fun a4 h => ?_)
    refine rv_iload_n 1 dX9_peek_11 rfl ?_
    refine rv_aaload dX9_peek_12 h (fun a5 h => ?_)
    refine rv_iload_n 2 dX9_peek_13 rfl ?_
    obtain ⟨b7, h6, h⟩ := rBind h
    refine rv_callVr (k3 := 0) (n3 := 0) (st2 := []) caX7_hasPlace cvX7_hasPlace ml_X9_346 dX9_peek_14 rfl (E_X7_hasPlace h6).2 (E_X7_hasPlace h6).1 rfl rfl rfl rfl rfl ?_
    clear h6
    refine rv_if_ne 24 dX9_peek_17 (by decide) (fun c8 => ?_) (fun c8 => ?_)
    · replace h := rIfF h c8
      refine rv_aload_n 0 dX9_peek_24 rfl ?_
      refine rv_getR ff_X9_68 dX9_peek_25 h (fun a9 h => ?_)
      refine rv_iload_n 1 dX9_peek_28 rfl ?_
      refine rv_aaload dX9_peek_29 h (fun a10 h => ?_)
      refine rv_getR ff_X9_337 dX9_peek_30 h (fun a11 h => ?_)
      refine rv_iload_n 2 dX9_peek_33 rfl ?_
      refine rv_laload dX9_peek_34 h (fun v12 h => ?_)
      exact rv_lret dX9_peek_35 rfl (rRetJp h)
    · replace h := rIfT h c8
      refine rv_ldc2 dX9_peek_20 kl_X9_306 ?_
      exact rv_lret dX9_peek_23 rfl (rRetJp h)
set_option maxRecDepth 20000 in
theorem E_X9_shift {x0 : Nat} {x1 : Int32} {x2 : Int32} {x3 : Int32} {x4 : Int32} {x5 : Int32} {r0 : Int32} {w0 : rW} {w : rW} (h : J_X9_shift x0 x1 x2 x3 x4 x5 w = some (r0, w0)) : (∃ fs, w[x0]? = some (cO 9 fs)) ∧ rMet mX9_shift 1 0 0 [.ref x0, .int x1, .int x2, .int x3, .int x4, .int x5] w (rIs (some (.int r0)) w0) := by
  unfold J_X9_shift at h
  obtain ⟨hrc, h⟩ := rRc_some h
  refine ⟨hrc, ?_⟩
  refine rMet_of (by decide) rfl ?_
  refine rv_iload_n 1 dX9_shift_0 rfl ?_
  obtain ⟨b2, h1, h⟩ := rBind h
  refine rv_callSr (k3 := 0) (n3 := 0) (st2 := []) (As := [.int x1]) caX9_isTape csX9_isTape ml_X9_327 dX9_shift_1 rfl (E_X9_isTape h1) rfl rfl rfl rfl rfl ?_
  clear h1
  refine rv_if_eq 14 dX9_shift_4 (by decide) (fun c3 => ?_) (fun c3 => ?_)
  · replace h := rIfT h c3
    refine rv_iconst (v := (-1)) dX9_shift_14 (by decide) ?_
    exact rv_iret .int dX9_shift_15 rfl rfl (rRetIw h)
  · replace h := rIfF h c3
    refine rv_iload_n 3 dX9_shift_7 rfl ?_
    obtain ⟨b5, h4, h⟩ := rBind h
    refine rv_callSr (k3 := 0) (n3 := 0) (st2 := []) (As := [.int x3]) caX9_isTape csX9_isTape ml_X9_327 dX9_shift_8 rfl (E_X9_isTape h4) rfl rfl rfl rfl rfl ?_
    clear h4
    refine rv_if_ne 16 dX9_shift_11 (by decide) (fun c6 => ?_) (fun c6 => ?_)
    · replace h := rIfF h c6
      refine rv_aload_n 0 dX9_shift_16 rfl ?_
      refine rv_getR ff_X9_68 dX9_shift_17 h (fun a7 h => ?_)
      refine rv_iload_n 1 dX9_shift_20 rfl ?_
      refine rv_aaload dX9_shift_21 h (fun a8 h => ?_)
      refine rv_astore (l2 := [(6, .ref a8), (0, .ref x0), (1, .int x1), (2, .int x2), (3, .int x3), (4, .int x4), (5, .int x5)]) dX9_shift_22 rfl rfl ?_
      refine rv_aload_n 1 dX9_shift_24 rfl ?_
      refine rv_getR ff_X9_68 dX9_shift_25 h (fun a9 h => ?_)
      refine rv_iload_n 4 dX9_shift_28 rfl ?_
      refine rv_aaload dX9_shift_29 h (fun a10 h => ?_)
      refine rv_astore (l2 := [(7, .ref a10), (6, .ref a8), (0, .ref x0), (1, .int x1), (2, .int x2), (3, .int x3), (4, .int x4), (5, .int x5)]) dX9_shift_30 rfl rfl ?_
      refine rv_aload 1 dX9_shift_32 rfl ?_
      obtain ⟨b12, h11, h⟩ := rBind h
      refine rv_callVr (k3 := 0) (n3 := 0) (st2 := []) caX7_isEmpty cvX7_isEmpty ml_X9_330 dX9_shift_34 rfl (E_X7_isEmpty h11).2 (E_X7_isEmpty h11).1 rfl rfl rfl rfl rfl ?_
      clear h11
      refine rv_if_ne 48 dX9_shift_37 (by decide) (fun c13 => ?_) (fun c13 => ?_)
      · replace h := rIfF h c13
        refine rv_bipush (v := (-11)) dX9_shift_48 (by decide) ?_
        exact rv_iret .int dX9_shift_50 rfl rfl (rRetIw h)
      · replace h := rIfT h c13
        refine rv_aload 0 dX9_shift_40 rfl ?_
        obtain ⟨b15, h14, h⟩ := rBind h
        refine rv_callVr (k3 := 0) (n3 := 0) (st2 := []) caX7_isEmpty cvX7_isEmpty ml_X9_330 dX9_shift_42 rfl (E_X7_isEmpty h14).2 (E_X7_isEmpty h14).1 rfl rfl rfl rfl rfl ?_
        clear h14
        refine rv_if_eq 51 dX9_shift_45 (by decide) (fun c16 => ?_) (fun c16 => ?_)
        · replace h := rIfT h c16
          refine rv_aload 1 dX9_shift_51 rfl ?_
          refine rv_getI ff_X9_333 dX9_shift_53 h (fun v17 h => ?_)
          refine rv_aload 0 dX9_shift_56 rfl ?_
          refine rv_getI ff_X9_333 dX9_shift_58 h (fun v18 h => ?_)
          refine rv_icmp_eq 67 dX9_shift_61 (by decide) (fun c19 => ?_) (fun c19 => ?_)
          · replace h := rIfT h c19
            refine rv_aload 1 dX9_shift_67 rfl ?_
            refine rv_iload_n 4 dX9_shift_69 rfl ?_
            refine rv_iload 7 dX9_shift_70 rfl ?_
            obtain ⟨b21, h20, h⟩ := rBind h
            refine rv_callVr (k3 := 0) (n3 := 0) (st2 := []) caX7_hasPlaces cvX7_hasPlaces ml_X9_353 dX9_shift_72 rfl (E_X7_hasPlaces h20).2 (E_X7_hasPlaces h20).1 rfl rfl rfl rfl rfl ?_
            clear h20
            refine rv_if_eq 90 dX9_shift_75 (by decide) (fun c22 => ?_) (fun c22 => ?_)
            · replace h := rIfT h c22
              refine rv_bipush (v := (-13)) dX9_shift_90 (by decide) ?_
              exact rv_iret .int dX9_shift_92 rfl rfl (rRetIw h)
            · replace h := rIfF h c22
              refine rv_aload 0 dX9_shift_78 rfl ?_
              refine rv_iload 6 dX9_shift_80 rfl ?_
              refine rv_iload 7 dX9_shift_82 rfl ?_
              obtain ⟨b24, h23, h⟩ := rBind h
              refine rv_callVr (k3 := 0) (n3 := 0) (st2 := []) caX7_hasPlaces cvX7_hasPlaces ml_X9_353 dX9_shift_84 rfl (E_X7_hasPlaces h23).2 (E_X7_hasPlaces h23).1 rfl rfl rfl rfl rfl ?_
              clear h23
              refine rv_if_ne 93 dX9_shift_87 (by decide) (fun c25 => ?_) (fun c25 => ?_)
              · replace h := rIfF h c25
                refine rv_aload 1 dX9_shift_93 rfl ?_
                refine rv_getR ff_X9_337 dX9_shift_95 h (fun a26 h => ?_)
                refine rv_iload_n 4 dX9_shift_98 rfl ?_
                refine rv_aload 0 dX9_shift_99 rfl ?_
                refine rv_getR ff_X9_337 dX9_shift_101 h (fun a27 h => ?_)
                refine rv_iload 6 dX9_shift_104 rfl ?_
                refine rv_iload 7 dX9_shift_106 rfl ?_
                refine rv_copyJ ml_X9_356 nt_J10_arraycopy sm_J10_arraycopy in_J10 dX9_shift_108 rfl rfl h (fun w28 h => ?_)
                refine rv_iload 7 dX9_shift_111 rfl ?_
                exact rv_iret .int dX9_shift_113 rfl rfl (rRetIw h)
              · replace h := rIfT h c25
                refine rv_bipush (v := (-13)) dX9_shift_90 (by decide) ?_
                exact rv_iret .int dX9_shift_92 rfl rfl (rRetIw h)
          · replace h := rIfF h c19
            refine rv_bipush (v := (-12)) dX9_shift_64 (by decide) ?_
            exact rv_iret .int dX9_shift_66 rfl rfl (rRetIw h)
        · replace h := rIfF h c16
          refine rv_bipush (v := (-11)) dX9_shift_48 (by decide) ?_
          exact rv_iret .int dX9_shift_50 rfl rfl (rRetIw h)
    · replace h := rIfT h c6
      refine rv_iconst (v := (-1)) dX9_shift_14 (by decide) ?_
      exact rv_iret .int dX9_shift_15 rfl rfl (rRetIw h)
set_option maxRecDepth 20000 in
theorem E_X10_size {x0 : Int32} {r0 : Int32} {w : rW} (h : J_X10_size x0 w = some r0) : rMet mX10_size 1 0 0 [.int x0] w (rIs (some (.int r0)) w) := by
  unfold J_X10_size at h
  refine rMet_of (by decide) rfl ?_
  refine rv_iload_n 0 dX10_size_0 rfl ?_
  obtain ⟨v2, h1, h⟩ := rBind h
  refine rv_callSr (k3 := 0) (n3 := 0) (st2 := []) (As := [.int x0]) caJ6_bitCount_0f7a4 csJ6_bitCount_0f7a4 ml_X10_104 dX10_size_1 rfl (E_J6_bitCount_0f7a4 h1) rfl rfl rfl rfl rfl ?_
  clear h1
  exact rv_iret .int dX10_size_4 rfl rfl (rRetIp h)
set_option maxRecDepth 20000 in
theorem E_X10_lists_7 {w0 : rW}  (x0 : Nat)   : ∀ (f : Nat) (x1 : Int32) (w : rW), J_X10_lists_7 x0 f x1 w = some w0 → rEv mX10_lists 2 0 0 7 [(0, .ref x0), (1, .int x1)] [] w (rIs none w0) := by
  intro f
  induction f with
  | zero =>
    intro x1 w h
    exact absurd (show (none : Option rW) = some w0 from h) (by simp)
  | succ f ih =>
    intro x1 w h
    rw [J_X10_lists_7] at h
    refine rv_iload_n 1 dX10_lists_7 rfl ?_
    refine rv_sipush (v := 256) dX10_lists_8 (by decide) ?_
    refine rv_icmp_ge 79 dX10_lists_11 (by decide) (fun c2 => ?_) (fun c2 => ?_)
    · replace h := rIfT h c2
      exact rv_vret dX10_lists_79 rfl (rRetV h)
    · replace h := rIfF h c2
      refine rv_aload_n 0 dX10_lists_14 rfl ?_
      refine rv_getR ff_X10_25 dX10_lists_15 h (fun a3 h => ?_)
      refine rv_iload_n 1 dX10_lists_18 rfl ?_
      refine rv_bipush (v := (-5)) dX10_lists_19 (by decide) ?_
      refine rv_iastore dX10_lists_21 h (fun w4 h => ?_)
      refine rv_iload_n 1 dX10_lists_22 rfl ?_
      refine rv_iconst (v := 1) dX10_lists_23 (by decide) ?_
      refine rv_aload_n 0 dX10_lists_24 rfl ?_
      refine rv_getI ff_X10_9 dX10_lists_25 h (fun v5 h => ?_)
      refine rv_ishl dX10_lists_28 ?_
      obtain ⟨K73, eK73, h⟩ := rLetE h
      have hK73 : ∀ (w : rW), K73 w = some w0 → rEv mX10_lists 2 0 0 73 [(0, .ref x0), (1, .int x1)] [] w (rIs none w0) := by
        intro w6 h
        rw [eK73] at h
        obtain ⟨v7, ev7, h⟩ := rLetE h
        refine rv_iinc (v := v7) (l2 := [(1, .int v7), (0, .ref x0)]) 1 dX10_lists_73 rfl (by rw [ev7]; rfl) rfl rfl ?_
        clear ev7
        refine rv_goto 7 dX10_lists_76 (by decide) ?_
        exact rv_sub [1, 0] rfl (ih v7 w6 h)
      clear eK73
      refine rv_icmp_ge 73 dX10_lists_29 (by decide) (fun c8 => ?_) (fun c8 => ?_)
      · replace h := rIfT h c8
        exact rv_sub [0, 1] rfl (hK73 w4 h)
      · replace h := rIfF h c8
        refine rv_iload_n 1 dX10_lists_32 rfl ?_
        obtain ⟨v10, h9, h⟩ := rBind h
        refine rv_callSr (k3 := 0) (n3 := 0) (st2 := []) (As := [.int x1]) caX10_size csX10_size ml_X10_113 dX10_lists_33 rfl (E_X10_size h9) rfl rfl rfl rfl rfl ?_
        clear h9
        refine rv_aload_n 0 dX10_lists_36 rfl ?_
        refine rv_getI ff_X10_15 dX10_lists_37 h (fun v11 h => ?_)
        refine rv_icmp_eq 46 dX10_lists_40 (by decide) (fun c12 => ?_) (fun c12 => ?_)
        · replace h := rIfT h c12
          refine rv_aload_n 0 dX10_lists_46 rfl ?_
          refine rv_getR ff_X10_25 dX10_lists_47 h (fun a13 h => ?_)
          refine rv_iload_n 1 dX10_lists_50 rfl ?_
          refine rv_aload_n 0 dX10_lists_51 rfl ?_
          refine rv_getI ff_X10_110 dX10_lists_52 h (fun v14 h => ?_)
          refine rv_iastore dX10_lists_55 h (fun w15 h => ?_)
          refine rv_aload_n 0 dX10_lists_56 rfl ?_
          refine rv_getR ff_X10_21 dX10_lists_57 h (fun a16 h => ?_)
          refine rv_aload_n 0 dX10_lists_60 rfl ?_
          refine rv_dup dX10_lists_61 rfl ?_
          refine rv_getI ff_X10_110 dX10_lists_62 h (fun v17 h => ?_)
          refine rv_dup_x1 dX10_lists_65 rfl rfl ?_
          refine rv_iconst (v := 1) dX10_lists_66 (by decide) ?_
          refine rv_iadd dX10_lists_67 ?_
          refine rv_putI ff_X10_110 (fp_X10_3 _) dX10_lists_68 h (fun w18 h => ?_)
          refine rv_iload_n 1 dX10_lists_71 rfl ?_
          refine rv_iastore dX10_lists_72 h (fun w19 h => ?_)
          exact rv_sub [0, 1] rfl (hK73 w19 h)
        · replace h := rIfF h c12
          refine rv_goto 73 dX10_lists_43 (by decide) ?_
          exact rv_sub [0, 1] rfl (hK73 w4 h)
set_option maxRecDepth 20000 in
theorem E_X10_lists {x0 : Nat} {w0 : rW} {w : rW} (h : J_X10_lists x0 w = some w0) : (∃ fs, w[x0]? = some (cO 10 fs)) ∧ rMet mX10_lists 2 0 0 [.ref x0] w (rIs none w0) := by
  unfold J_X10_lists at h
  obtain ⟨hrc, h⟩ := rRc_some h
  refine ⟨hrc, ?_⟩
  refine rMet_of (by decide) rfl ?_
  refine rv_aload_n 0 dX10_lists_0 rfl ?_
  refine rv_iconst (v := 0) dX10_lists_1 (by decide) ?_
  refine rv_putI ff_X10_110 (fp_X10_3 _) dX10_lists_2 h (fun w1 h => ?_)
  refine rv_iconst (v := 0) dX10_lists_5 (by decide) ?_
  refine rv_istore_n (l2 := [(1, .int 0), (0, .ref x0)]) dX10_lists_6 rfl rfl ?_
  exact rv_sub [1, 0] rfl (E_X10_lists_7 x0 2000 0 w1 h)
set_option maxRecDepth 20000 in
theorem E_X10_init {x0 : Nat} {w0 : rW} {w : rW} (h : J_X10_init x0 w = some w0) : rMet mX10_init 3 26 3848 [.ref x0] w (rIs none w0) := by
  unfold J_X10_init at h
  refine rMet_of (by decide) rfl ?_
  refine rv_aload_n 0 dX10_init_0 rfl ?_
  refine rv_objInit ml_X10_3 im_java_lang_Object__init_ co_object dX10_init_1 rfl rfl ?_
  refine rv_aload_n 0 dX10_init_4 rfl ?_
  refine rv_bipush (v := 6) dX10_init_5 (by decide) ?_
  refine rv_putI ff_X10_9 (fp_X10_0 _) dX10_init_7 h (fun w1 h => ?_)
  refine rv_aload_n 0 dX10_init_10 rfl ?_
  refine rv_iconst (v := 3) dX10_init_11 (by decide) ?_
  refine rv_putI ff_X10_15 (fp_X10_1 _) dX10_init_12 h (fun w2 h => ?_)
  refine rv_aload_n 0 dX10_init_15 rfl ?_
  refine rv_iconst (v := 2) dX10_init_16 (by decide) ?_
  refine rv_putI ff_X10_18 (fp_X10_2 _) dX10_init_17 h (fun w3 h => ?_)
  refine rv_aload_n 0 dX10_init_20 rfl ?_
  refine rv_bipush (v := 56) dX10_init_21 (by decide) ?_
  refine rv_newIB (b := 56) (by decide) dX10_init_23 h (fun a4 w5 h => ?_)
  refine rv_putFA ff_X10_21 fp_X10_4 dX10_init_25 rfl h (fun w6 h => ?_)
  refine rv_aload_n 0 dX10_init_28 rfl ?_
  refine rv_sipush (v := 256) dX10_init_29 (by decide) ?_
  refine rv_newIB (b := 256) (by decide) dX10_init_32 h (fun a7 w8 h => ?_)
  refine rv_putFA ff_X10_25 fp_X10_5 dX10_init_34 rfl h (fun w9 h => ?_)
  refine rv_aload_n 0 dX10_init_37 rfl ?_
  refine rv_bipush (v := 56) dX10_init_38 (by decide) ?_
  refine rv_newIB (b := 56) (by decide) dX10_init_40 h (fun a10 w11 h => ?_)
  refine rv_putFA ff_X10_28 fp_X10_6 dX10_init_42 rfl h (fun w12 h => ?_)
  refine rv_aload_n 0 dX10_init_45 rfl ?_
  refine rv_bipush (v := 56) dX10_init_46 (by decide) ?_
  refine rv_newIB (b := 56) (by decide) dX10_init_48 h (fun a13 w14 h => ?_)
  refine rv_putFA ff_X10_31 fp_X10_7 dX10_init_50 rfl h (fun w15 h => ?_)
  refine rv_aload_n 0 dX10_init_53 rfl ?_
  refine rv_bipush (v := 56) dX10_init_54 (by decide) ?_
  refine rv_newIB (b := 56) (by decide) dX10_init_56 h (fun a16 w17 h => ?_)
  refine rv_putFA ff_X10_34 fp_X10_8 dX10_init_58 rfl h (fun w18 h => ?_)
  refine rv_aload_n 0 dX10_init_61 rfl ?_
  refine rv_iconst (v := 4) dX10_init_62 (by decide) ?_
  refine rv_newIB (b := 4) (by decide) dX10_init_63 h (fun a19 w20 h => ?_)
  refine rv_putFA ff_X10_37 fp_X10_9 dX10_init_65 rfl h (fun w21 h => ?_)
  refine rv_aload_n 0 dX10_init_68 rfl ?_
  refine rv_iconst (v := 4) dX10_init_69 (by decide) ?_
  refine rv_newIB (b := 4) (by decide) dX10_init_70 h (fun a22 w23 h => ?_)
  refine rv_putFA ff_X10_40 fp_X10_10 dX10_init_72 rfl h (fun w24 h => ?_)
  refine rv_aload_n 0 dX10_init_75 rfl ?_
  refine rv_bipush (v := 8) dX10_init_76 (by decide) ?_
  refine rv_newIB (b := 8) (by decide) dX10_init_78 h (fun a25 w26 h => ?_)
  refine rv_putFA ff_X10_43 fp_X10_12 dX10_init_80 rfl h (fun w27 h => ?_)
  refine rv_aload_n 0 dX10_init_83 rfl ?_
  refine rv_bipush (v := 8) dX10_init_84 (by decide) ?_
  refine rv_newIB (b := 8) (by decide) dX10_init_86 h (fun a28 w29 h => ?_)
  refine rv_putFA ff_X10_46 fp_X10_13 dX10_init_88 rfl h (fun w30 h => ?_)
  refine rv_aload_n 0 dX10_init_91 rfl ?_
  refine rv_bipush (v := 8) dX10_init_92 (by decide) ?_
  refine rv_newIB (b := 8) (by decide) dX10_init_94 h (fun a31 w32 h => ?_)
  refine rv_putFA ff_X10_49 fp_X10_15 dX10_init_96 rfl h (fun w33 h => ?_)
  refine rv_aload_n 0 dX10_init_99 rfl ?_
  refine rv_bipush (v := 8) dX10_init_100 (by decide) ?_
  refine rv_newIB (b := 8) (by decide) dX10_init_102 h (fun a34 w35 h => ?_)
  refine rv_putFA ff_X10_52 fp_X10_16 dX10_init_104 rfl h (fun w36 h => ?_)
  refine rv_aload_n 0 dX10_init_107 rfl ?_
  refine rv_bipush (v := 100) dX10_init_108 (by decide) ?_
  refine rv_newIB (b := 100) (by decide) dX10_init_110 h (fun a37 w38 h => ?_)
  refine rv_putFA ff_X10_55 fp_X10_18 dX10_init_112 rfl h (fun w39 h => ?_)
  refine rv_aload_n 0 dX10_init_115 rfl ?_
  refine rv_bipush (v := 12) dX10_init_116 (by decide) ?_
  refine rv_newIB (b := 12) (by decide) dX10_init_118 h (fun a40 w41 h => ?_)
  refine rv_putFA ff_X10_58 fp_X10_21 dX10_init_120 rfl h (fun w42 h => ?_)
  refine rv_aload_n 0 dX10_init_123 rfl ?_
  refine rv_bipush (v := 36) dX10_init_124 (by decide) ?_
  refine rv_newIB (b := 36) (by decide) dX10_init_126 h (fun a43 w44 h => ?_)
  refine rv_putFA ff_X10_61 fp_X10_22 dX10_init_128 rfl h (fun w45 h => ?_)
  refine rv_aload_n 0 dX10_init_131 rfl ?_
  refine rv_sipush (v := 360) dX10_init_132 (by decide) ?_
  refine rv_newJB (b := 360) (by decide) dX10_init_135 h (fun a46 w47 h => ?_)
  refine rv_putFA ff_X10_64 fp_X10_24 dX10_init_137 rfl h (fun w48 h => ?_)
  refine rv_aload_n 0 dX10_init_140 rfl ?_
  refine rv_bipush (v := 6) dX10_init_141 (by decide) ?_
  refine rv_newIB (b := 6) (by decide) dX10_init_143 h (fun a49 w50 h => ?_)
  refine rv_dup dX10_init_145 rfl ?_
  refine rv_iconst (v := 0) dX10_init_146 (by decide) ?_
  refine rv_iconst (v := (-1)) dX10_init_147 (by decide) ?_
  refine rv_iastore dX10_init_148 h (fun w51 h => ?_)
  refine rv_dup dX10_init_149 rfl ?_
  refine rv_iconst (v := 1) dX10_init_150 (by decide) ?_
  refine rv_iconst (v := (-1)) dX10_init_151 (by decide) ?_
  refine rv_iastore dX10_init_152 h (fun w52 h => ?_)
  refine rv_dup dX10_init_153 rfl ?_
  refine rv_iconst (v := 2) dX10_init_154 (by decide) ?_
  refine rv_iconst (v := (-1)) dX10_init_155 (by decide) ?_
  refine rv_iastore dX10_init_156 h (fun w53 h => ?_)
  refine rv_dup dX10_init_157 rfl ?_
  refine rv_iconst (v := 3) dX10_init_158 (by decide) ?_
  refine rv_iconst (v := (-1)) dX10_init_159 (by decide) ?_
  refine rv_iastore dX10_init_160 h (fun w54 h => ?_)
  refine rv_dup dX10_init_161 rfl ?_
  refine rv_iconst (v := 4) dX10_init_162 (by decide) ?_
  refine rv_iconst (v := (-1)) dX10_init_163 (by decide) ?_
  refine rv_iastore dX10_init_164 h (fun w55 h => ?_)
  refine rv_dup dX10_init_165 rfl ?_
  refine rv_iconst (v := 5) dX10_init_166 (by decide) ?_
  refine rv_iconst (v := (-1)) dX10_init_167 (by decide) ?_
  refine rv_iastore dX10_init_168 h (fun w56 h => ?_)
  refine rv_putFA ff_X10_68 fp_X10_25 dX10_init_169 rfl h (fun w57 h => ?_)
  refine rv_aload_n 0 dX10_init_172 rfl ?_
  refine rv_bipush (v := 6) dX10_init_173 (by decide) ?_
  refine rv_newIB (b := 6) (by decide) dX10_init_175 h (fun a58 w59 h => ?_)
  refine rv_putFA ff_X10_71 fp_X10_26 dX10_init_177 rfl h (fun w60 h => ?_)
  refine rv_aload_n 0 dX10_init_180 rfl ?_
  refine rv_sipush (v := 220) dX10_init_181 (by decide) ?_
  refine rv_newIB (b := 220) (by decide) dX10_init_184 h (fun a61 w62 h => ?_)
  refine rv_putFA ff_X10_74 fp_X10_27 dX10_init_186 rfl h (fun w63 h => ?_)
  refine rv_aload_n 0 dX10_init_189 rfl ?_
  refine rv_sipush (v := 220) dX10_init_190 (by decide) ?_
  refine rv_newIB (b := 220) (by decide) dX10_init_193 h (fun a64 w65 h => ?_)
  refine rv_putFA ff_X10_77 fp_X10_28 dX10_init_195 rfl h (fun w66 h => ?_)
  refine rv_aload_n 0 dX10_init_198 rfl ?_
  refine rv_bipush (v := 56) dX10_init_199 (by decide) ?_
  refine rv_newIB (b := 56) (by decide) dX10_init_201 h (fun a67 w68 h => ?_)
  refine rv_putFA ff_X10_80 fp_X10_30 dX10_init_203 rfl h (fun w69 h => ?_)
  refine rv_aload_n 0 dX10_init_206 rfl ?_
  refine rv_bipush (v := 8) dX10_init_207 (by decide) ?_
  refine rv_newIB (b := 8) (by decide) dX10_init_209 h (fun a70 w71 h => ?_)
  refine rv_putFA ff_X10_83 fp_X10_31 dX10_init_211 rfl h (fun w72 h => ?_)
  refine rv_aload_n 0 dX10_init_214 rfl ?_
  refine rv_bipush (v := 56) dX10_init_215 (by decide) ?_
  refine rv_newIB (b := 56) (by decide) dX10_init_217 h (fun a73 w74 h => ?_)
  refine rv_putFA ff_X10_86 fp_X10_32 dX10_init_219 rfl h (fun w75 h => ?_)
  refine rv_aload_n 0 dX10_init_222 rfl ?_
  refine rv_sipush (v := 600) dX10_init_223 (by decide) ?_
  refine rv_newIB (b := 600) (by decide) dX10_init_226 h (fun a76 w77 h => ?_)
  refine rv_putFA ff_X10_89 fp_X10_33 dX10_init_228 rfl h (fun w78 h => ?_)
  refine rv_aload_n 0 dX10_init_231 rfl ?_
  refine rv_bipush (v := 56) dX10_init_232 (by decide) ?_
  refine rv_newIB (b := 56) (by decide) dX10_init_234 h (fun a79 w80 h => ?_)
  refine rv_putFA ff_X10_92 fp_X10_35 dX10_init_236 rfl h (fun w81 h => ?_)
  refine rv_aload_n 0 dX10_init_239 rfl ?_
  refine rv_bipush (v := 56) dX10_init_240 (by decide) ?_
  refine rv_newIB (b := 56) (by decide) dX10_init_242 h (fun a82 w83 h => ?_)
  refine rv_putFA ff_X10_95 fp_X10_36 dX10_init_244 rfl h (fun w84 h => ?_)
  refine rv_aload_n 0 dX10_init_247 rfl ?_
  refine rv_sipush (v := 1536) dX10_init_248 (by decide) ?_
  refine rv_newIB (b := 1536) (by decide) dX10_init_251 h (fun a85 w86 h => ?_)
  refine rv_putFA ff_X10_98 fp_X10_37 dX10_init_253 rfl h (fun w87 h => ?_)
  refine rv_aload_n 0 dX10_init_256 rfl ?_
  obtain ⟨w89, h88, h⟩ := rBind h
  refine rv_callVv (k3 := 0) (n3 := 0) (st2 := []) caX10_lists cvX10_lists ml_X10_101 dX10_init_257 rfl (E_X10_lists h88).2 (E_X10_lists h88).1 rfl rfl rfl rfl rfl ?_
  clear h88
  exact rv_vret dX10_init_260 rfl (rRetV h)

set_option maxRecDepth 20000 in
theorem E_X10_odds {x0 : Nat} {x1 : Int32} {x2 : Int32} {r0 : Int64} {w : rW} (h : J_X10_odds x0 x1 x2 w = some r0) : (∃ fs, w[x0]? = some (cO 10 fs)) ∧ rMet mX10_odds 3 0 0 [.ref x0, .int x1, .int x2] w (rIs (some (.long r0)) w) := by
  unfold J_X10_odds at h
  obtain ⟨hrc, h⟩ := rRc_some h
  refine ⟨hrc, ?_⟩
  refine rMet_of (by decide) rfl ?_
  refine rv_aload_n 0 dX10_odds_0 rfl ?_
  refine rv_iload_n 1 dX10_odds_1 rfl ?_
  refine rv_aload_n 0 dX10_odds_2 rfl ?_
  refine rv_getI ff_X10_15 dX10_odds_3 h (fun v1 h => ?_)
  obtain ⟨b3, h2, h⟩ := rBind h
  refine rv_callVr (k3 := 0) (n3 := 0) (st2 := []) caX10_isSet cvX10_isSet ml_X10_284 dX10_odds_6 rfl (E_X10_isSet h2).2 (E_X10_isSet h2).1 rfl rfl rfl rfl rfl ?_
  clear h2
  refine rv_if_eq 22 dX10_odds_9 (by decide) (fun c4 => ?_) (fun c4 => ?_)
  · replace h := rIfT h c4
    refine rv_ldc2 dX10_odds_22 kl_X10_343 ?_
    exact rv_lret dX10_odds_25 rfl (rRetJp h)
  · replace h := rIfF h c4
    refine rv_iload_n 2 dX10_odds_12 rfl ?_
    refine rv_i2l dX10_odds_13 ?_
    refine rv_lconst (v := 0) dX10_odds_14 (by decide) ?_
    refine rv_lconst (v := 1) dX10_odds_15 (by decide) ?_
    obtain ⟨b6, h5, h⟩ := rBind h
    refine rv_callSr (k3 := 0) (n3 := 0) (st2 := []) (As := [.long (Int32.toInt64 x2), .long 0, .long 1]) caX10_in csX10_in ml_X10_116 dX10_odds_16 rfl (E_X10_in h5) rfl rfl rfl rfl rfl ?_
    clear h5
    refine rv_if_ne 26 dX10_odds_19 (by decide) (fun c7 => ?_) (fun c7 => ?_)
    · replace h := rIfF h c7
      refine rv_iconst (v := 0) dX10_odds_26 (by decide) ?_
      refine rv_istore_n (l2 := [(3, .int 0), (0, .ref x0), (1, .int x1), (2, .int x2)]) dX10_odds_27 rfl rfl ?_
      refine rv_iconst (v := 0) dX10_odds_28 (by decide) ?_
      refine rv_istore (l2 := [(4, .int 0), (3, .int 0), (0, .ref x0), (1, .int x1), (2, .int x2)]) dX10_odds_29 rfl rfl ?_
      obtain ⟨K62, eK62, h⟩ := rLetE h
      have hK62 : ∀ (y3 : Int32), K62 y3 = some r0 → rEv mX10_odds 3 0 0 62 [(0, .ref x0), (1, .int x1), (2, .int x2), (3, .int y3)] [] w (rIs (some (.long r0)) w) := by
        intro x3_8 h
        rw [eK62] at h
        refine rv_aload_n 0 dX10_odds_62 rfl ?_
        refine rv_iload_n 1 dX10_odds_63 rfl ?_
        obtain ⟨v10, h9, h⟩ := rBind h
        refine rv_callVr (k3 := 0) (n3 := 0) (st2 := []) caX10_coverOf cvX10_coverOf ml_X10_275 dX10_odds_64 rfl (E_X10_coverOf h9).2 (E_X10_coverOf h9).1 rfl rfl rfl rfl rfl ?_
        clear h9
        refine rv_iload_n 3 dX10_odds_67 rfl ?_
        refine rv_iload_n 2 dX10_odds_68 rfl ?_
        obtain ⟨v12, h11, h⟩ := rBind h
        refine rv_callSr (k3 := 0) (n3 := 0) (st2 := []) (As := [.int v10, .int x3_8, .int x2]) caX10_lowest csX10_lowest ml_X10_345 dX10_odds_69 rfl (E_X10_lowest h11) rfl rfl rfl rfl rfl ?_
        clear h11
        exact rv_lret dX10_odds_72 rfl (rRetJp h)
      clear eK62
      exact rv_sub [2, 3, 4, 1, 0] rfl (E_X10_odds_31 x0 x1 x2 w hK62 2000 0 0 h)
    · replace h := rIfT h c7
      refine rv_ldc2 dX10_odds_22 kl_X10_343 ?_
      exact rv_lret dX10_odds_25 rfl (rRetJp h)
set_option maxRecDepth 20000 in
theorem E_X10_mean_4 {r0 : Int64}  (x0 : Nat) (x1 : Int32) (w : rW)  {K30 : Int32 → Option Int64} (hK30 : ∀ (y2 : Int32), K30 y2 = some r0 → rEv mX10_mean 2 0 0 30 [(0, .ref x0), (1, .int x1), (2, .int y2)] [] w (rIs (some (.long r0)) w)) : ∀ (f : Nat) (x2 : Int32) (x3 : Int32), J_X10_mean_4 x0 w K30 f x2 x3 = some r0 → rEv mX10_mean 2 0 0 4 [(0, .ref x0), (1, .int x1), (2, .int x2), (3, .int x3)] [] w (rIs (some (.long r0)) w) := by
  intro f
  induction f with
  | zero =>
    intro x2 x3 h
    exact absurd (show (none : Option Int64) = some r0 from h) (by simp)
  | succ f ih =>
    intro x2 x3 h
    rw [J_X10_mean_4] at h
    refine rv_iload_n 3 dX10_mean_4 rfl ?_
    refine rv_aload_n 0 dX10_mean_5 rfl ?_
    refine rv_getI ff_X10_110 dX10_mean_6 h (fun v10 h => ?_)
    refine rv_icmp_ge 30 dX10_mean_9 (by decide) (fun c11 => ?_) (fun c11 => ?_)
    · replace h := rIfT h c11
      exact rv_sub [0, 1, 2] rfl (hK30 x2 h)
    · replace h := rIfF h c11
      refine rv_aload_n 0 dX10_mean_12 rfl ?_
      refine rv_getR ff_X10_28 dX10_mean_13 h (fun a12 h => ?_)
      refine rv_iload_n 3 dX10_mean_16 rfl ?_
      refine rv_iaload dX10_mean_17 h (fun v13 h => ?_)
      obtain ⟨K24, eK24, h⟩ := rLetE h
      have hK24 : ∀ (y2 : Int32), K24 y2 = some r0 → rEv mX10_mean 2 0 0 24 [(0, .ref x0), (1, .int x1), (2, .int y2), (3, .int x3)] [] w (rIs (some (.long r0)) w) := by
        intro x2_14 h
        rw [eK24] at h
        obtain ⟨v15, ev15, h⟩ := rLetE h
        refine rv_iinc (v := v15) (l2 := [(3, .int v15), (0, .ref x0), (1, .int x1), (2, .int x2_14)]) 3 dX10_mean_24 rfl (by rw [ev15]; rfl) rfl rfl ?_
        clear ev15
        refine rv_goto 4 dX10_mean_27 (by decide) ?_
        exact rv_sub [1, 2, 3, 0] rfl (ih x2_14 v15 h)
      clear eK24
      refine rv_if_eq 24 dX10_mean_18 (by decide) (fun c16 => ?_) (fun c16 => ?_)
      · replace h := rIfT h c16
        exact rv_sub [0, 1, 2, 3] rfl (hK24 x2 h)
      · replace h := rIfF h c16
        obtain ⟨v17, ev17, h⟩ := rLetE h
        refine rv_iinc (v := v17) (l2 := [(2, .int v17), (0, .ref x0), (1, .int x1), (3, .int x3)]) 2 dX10_mean_21 rfl (by rw [ev17]; rfl) rfl rfl ?_
        clear ev17
        exact rv_sub [1, 2, 0, 3] rfl (hK24 v17 h)
set_option maxRecDepth 20000 in
theorem E_X10_mean {x0 : Nat} {x1 : Int32} {r0 : Int64} {w : rW} (h : J_X10_mean x0 x1 w = some r0) : (∃ fs, w[x0]? = some (cO 10 fs)) ∧ rMet mX10_mean 2 0 0 [.ref x0, .int x1] w (rIs (some (.long r0)) w) := by
  unfold J_X10_mean at h
  obtain ⟨hrc, h⟩ := rRc_some h
  refine ⟨hrc, ?_⟩
  refine rMet_of (by decide) rfl ?_
  refine rv_iconst (v := 0) dX10_mean_0 (by decide) ?_
  refine rv_istore_n (l2 := [(2, .int 0), (0, .ref x0), (1, .int x1)]) dX10_mean_1 rfl rfl ?_
  refine rv_iconst (v := 0) dX10_mean_2 (by decide) ?_
  refine rv_istore_n (l2 := [(3, .int 0), (2, .int 0), (0, .ref x0), (1, .int x1)]) dX10_mean_3 rfl rfl ?_
  obtain ⟨K30, eK30, h⟩ := rLetE h
  have hK30 : ∀ (y2 : Int32), K30 y2 = some r0 → rEv mX10_mean 2 0 0 30 [(0, .ref x0), (1, .int x1), (2, .int y2)] [] w (rIs (some (.long r0)) w) := by
    intro x2_1 h
    rw [eK30] at h
    refine rv_iload_n 2 dX10_mean_30 rfl ?_
    obtain ⟨K44, eK44, h⟩ := rLetE h
    have hK44 : K44 = some r0 → rEv mX10_mean 2 0 0 44 [] [] w (rIs (some (.long r0)) w) := by
      intro h
      rw [eK44] at h
      refine rv_ldc2 dX10_mean_44 kl_X10_343 ?_
      refine rv_goto 59 dX10_mean_47 (by decide) ?_
      exact rv_lret dX10_mean_59 rfl (rRetJp h)
    clear eK44
    refine rv_if_eq 44 dX10_mean_31 (by decide) (fun c2 => ?_) (fun c2 => ?_)
    · replace h := rIfT h c2
      exact rv_sub [] rfl (hK44 h)
    · replace h := rIfF h c2
      refine rv_iload_n 1 dX10_mean_34 rfl ?_
      refine rv_i2l dX10_mean_35 ?_
      refine rv_lconst (v := 0) dX10_mean_36 (by decide) ?_
      refine rv_lconst (v := 1) dX10_mean_37 (by decide) ?_
      obtain ⟨b4, h3, h⟩ := rBind h
      refine rv_callSr (k3 := 0) (n3 := 0) (st2 := []) (As := [.long (Int32.toInt64 x1), .long 0, .long 1]) caX10_in csX10_in ml_X10_116 dX10_mean_38 rfl (E_X10_in h3) rfl rfl rfl rfl rfl ?_
      clear h3
      refine rv_if_ne 50 dX10_mean_41 (by decide) (fun c5 => ?_) (fun c5 => ?_)
      · replace h := rIfF h c5
        refine rv_aload_n 0 dX10_mean_50 rfl ?_
        obtain ⟨v7, h6, h⟩ := rBind h
        refine rv_callVr (k3 := 0) (n3 := 0) (st2 := []) caX10_volume cvX10_volume ml_X10_167 dX10_mean_51 rfl (E_X10_volume h6).2 (E_X10_volume h6).1 rfl rfl rfl rfl rfl ?_
        clear h6
        refine rv_iload_n 2 dX10_mean_54 rfl ?_
        refine rv_iload_n 1 dX10_mean_55 rfl ?_
        obtain ⟨v9, h8, h⟩ := rBind h
        refine rv_callSr (k3 := 0) (n3 := 0) (st2 := []) (As := [.int v7, .int x2_1, .int x1]) caX10_lowest csX10_lowest ml_X10_345 dX10_mean_56 rfl (E_X10_lowest h8) rfl rfl rfl rfl rfl ?_
        clear h8
        exact rv_lret dX10_mean_59 rfl (rRetJp h)
      · replace h := rIfT h c5
        exact rv_sub [] rfl (hK44 h)
  clear eK30
  exact rv_sub [2, 3, 1, 0] rfl (E_X10_mean_4 x0 x1 w hK30 2000 0 0 h)
set_option maxRecDepth 20000 in
theorem E_X10_event {x0 : Nat} {x1 : Int32} {x2 : Int32} {r0 : Int32} {w0 : rW} {w : rW} (h : J_X10_event x0 x1 x2 w = some (r0, w0)) : (∃ fs, w[x0]? = some (cO 10 fs)) ∧ rMet mX10_event 3 0 0 [.ref x0, .int x1, .int x2] w (rIs (some (.int r0)) w0) := by
  unfold J_X10_event at h
  obtain ⟨hrc, h⟩ := rRc_some h
  refine ⟨hrc, ?_⟩
  refine rMet_of (by decide) rfl ?_
  refine rv_iload_n 1 dX10_event_0 rfl ?_
  refine rv_iconst (v := (-1)) dX10_event_1 (by decide) ?_
  refine rv_icmp_ne 12 dX10_event_2 (by decide) (fun c1 => ?_) (fun c1 => ?_)
  · replace h := rIfF h c1
    refine rv_iload_n 1 dX10_event_12 rfl ?_
    refine rv_i2l dX10_event_13 ?_
    refine rv_lconst (v := 0) dX10_event_14 (by decide) ?_
    refine rv_ldc2 dX10_event_15 kl_X10_120 ?_
    obtain ⟨b3, h2, h⟩ := rBind h
    refine rv_callSr (k3 := 0) (n3 := 0) (st2 := []) (As := [.long (Int32.toInt64 x1), .long 0, .long 4]) caX10_in csX10_in ml_X10_116 dX10_event_18 rfl (E_X10_in h2) rfl rfl rfl rfl rfl ?_
    clear h2
    refine rv_if_eq 37 dX10_event_21 (by decide) (fun c4 => ?_) (fun c4 => ?_)
    · replace h := rIfT h c4
      refine rv_iconst (v := (-1)) dX10_event_37 (by decide) ?_
      exact rv_iret .int dX10_event_38 rfl rfl (rRetIw h)
    · replace h := rIfF h c4
      refine rv_iload_n 1 dX10_event_24 rfl ?_
      refine rv_iconst (v := 2) dX10_event_25 (by decide) ?_
      obtain ⟨K39, eK39, h⟩ := rLetE h
      have hK39 : K39 = some (r0, w0) → rEv mX10_event 3 0 0 39 [(0, .ref x0), (1, .int x1), (2, .int x2)] [] w (rIs (some (.int r0)) w0) := by
        intro h
        rw [eK39] at h
        refine rv_iload_n 1 dX10_event_39 rfl ?_
        obtain ⟨K51, eK51, h⟩ := rLetE h
        have hK51 : ∀ (w : rW), K51 w = some (r0, w0) → rEv mX10_event 3 0 0 51 [(0, .ref x0), (1, .int x1), (2, .int x2)] [] w (rIs (some (.int r0)) w0) := by
          intro w5 h
          rw [eK51] at h
          refine rv_iload_n 1 dX10_event_51 rfl ?_
          refine rv_i2l dX10_event_52 ?_
          refine rv_lconst (v := 1) dX10_event_53 (by decide) ?_
          refine rv_ldc2 dX10_event_54 kl_X10_124 ?_
          obtain ⟨b7, h6, h⟩ := rBind h
          refine rv_callSr (k3 := 0) (n3 := 0) (st2 := []) (As := [.long (Int32.toInt64 x1), .long 1, .long 2]) caX10_in csX10_in ml_X10_116 dX10_event_57 rfl (E_X10_in h6) rfl rfl rfl rfl rfl ?_
          clear h6
          obtain ⟨K70, eK70, h⟩ := rLetE h
          have hK70 : K70 = some (r0, w0) → rEv mX10_event 3 0 0 70 [(0, .ref x0), (1, .int x1), (2, .int x2)] [] w5 (rIs (some (.int r0)) w0) := by
            intro h
            rw [eK70] at h
            refine rv_aload_n 0 dX10_event_70 rfl ?_
            refine rv_getI ff_X10_349 dX10_event_71 h (fun v8 h => ?_)
            refine rv_bipush (v := 8) dX10_event_74 (by decide) ?_
            refine rv_icmp_ne 82 dX10_event_76 (by decide) (fun c9 => ?_) (fun c9 => ?_)
            · replace h := rIfF h c9
              refine rv_aload_n 0 dX10_event_82 rfl ?_
              refine rv_getR ff_X10_43 dX10_event_83 h (fun a10 h => ?_)
              refine rv_aload_n 0 dX10_event_86 rfl ?_
              refine rv_getI ff_X10_349 dX10_event_87 h (fun v11 h => ?_)
              refine rv_iload_n 1 dX10_event_90 rfl ?_
              refine rv_iastore dX10_event_91 h (fun w12 h => ?_)
              refine rv_aload_n 0 dX10_event_92 rfl ?_
              refine rv_getR ff_X10_46 dX10_event_93 h (fun a13 h => ?_)
              refine rv_aload_n 0 dX10_event_96 rfl ?_
              refine rv_getI ff_X10_349 dX10_event_97 h (fun v14 h => ?_)
              refine rv_iload_n 2 dX10_event_100 rfl ?_
              refine rv_iastore dX10_event_101 h (fun w15 h => ?_)
              refine rv_aload_n 0 dX10_event_102 rfl ?_
              refine rv_dup dX10_event_103 rfl ?_
              refine rv_getI ff_X10_349 dX10_event_104 h (fun v16 h => ?_)
              refine rv_iconst (v := 1) dX10_event_107 (by decide) ?_
              refine rv_iadd dX10_event_108 ?_
              refine rv_putI ff_X10_349 (fp_X10_14 _) dX10_event_109 h (fun w17 h => ?_)
              refine rv_aload_n 0 dX10_event_112 rfl ?_
              refine rv_getI ff_X10_349 dX10_event_113 h (fun v18 h => ?_)
              exact rv_iret .int dX10_event_116 rfl rfl (rRetIw h)
            · replace h := rIfT h c9
              refine rv_bipush (v := (-4)) dX10_event_79 (by decide) ?_
              exact rv_iret .int dX10_event_81 rfl rfl (rRetIw h)
          clear eK70
          refine rv_if_eq 70 dX10_event_60 (by decide) (fun c19 => ?_) (fun c19 => ?_)
          · replace h := rIfT h c19
            exact rv_sub [0, 1, 2] rfl (hK70 h)
          · replace h := rIfF h c19
            refine rv_iload_n 2 dX10_event_63 rfl ?_
            refine rv_if_eq 70 dX10_event_64 (by decide) (fun c20 => ?_) (fun c20 => ?_)
            · replace h := rIfT h c20
              exact rv_sub [0, 1, 2] rfl (hK70 h)
            · replace h := rIfF h c20
              refine rv_bipush (v := (-2)) dX10_event_67 (by decide) ?_
              exact rv_iret .int dX10_event_69 rfl rfl (rRetIw h)
        clear eK51
        refine rv_if_ne 51 dX10_event_40 (by decide) (fun c21 => ?_) (fun c21 => ?_)
        · replace h := rIfF h c21
          exact rv_sub [0, 1, 2] rfl (hK51 w h)
        · replace h := rIfT h c21
          refine rv_aload_n 0 dX10_event_43 rfl ?_
          refine rv_iload_n 2 dX10_event_44 rfl ?_
          obtain ⟨b23, w24, h22, h⟩ := rB2_some h
          refine rv_callVr (k3 := 0) (n3 := 0) (st2 := []) caX10_twists cvX10_twists ml_X10_157 dX10_event_45 rfl (E_X10_twists h22).2 (E_X10_twists h22).1 rfl rfl rfl rfl rfl ?_
          clear h22
          refine rv_if_eq 67 dX10_event_48 (by decide) (fun c25 => ?_) (fun c25 => ?_)
          · replace h := rIfT h c25
            refine rv_bipush (v := (-2)) dX10_event_67 (by decide) ?_
            exact rv_iret .int dX10_event_69 rfl rfl (rRetIw h)
          · replace h := rIfF h c25
            exact rv_sub [0, 1, 2] rfl (hK51 w24 h)
      clear eK39
      refine rv_icmp_le 39 dX10_event_26 (by decide) (fun c26 => ?_) (fun c26 => ?_)
      · replace h := rIfT h c26
        exact rv_sub [0, 1, 2] rfl (hK39 h)
      · replace h := rIfF h c26
        refine rv_aload_n 0 dX10_event_29 rfl ?_
        refine rv_iload_n 2 dX10_event_30 rfl ?_
        obtain ⟨b28, h27, h⟩ := rBind h
        refine rv_callVr (k3 := 0) (n3 := 0) (st2 := []) caX10_isBlock cvX10_isBlock ml_X10_140 dX10_event_31 rfl (E_X10_isBlock h27).2 (E_X10_isBlock h27).1 rfl rfl rfl rfl rfl ?_
        clear h27
        refine rv_if_ne 39 dX10_event_34 (by decide) (fun c29 => ?_) (fun c29 => ?_)
        · replace h := rIfF h c29
          exact rv_sub [0, 1, 2] rfl (hK39 h)
        · replace h := rIfT h c29
          refine rv_iconst (v := (-1)) dX10_event_37 (by decide) ?_
          exact rv_iret .int dX10_event_38 rfl rfl (rRetIw h)
  · replace h := rIfT h c1
    refine rv_aload_n 0 dX10_event_5 rfl ?_
    refine rv_iconst (v := 0) dX10_event_6 (by decide) ?_
    refine rv_putI ff_X10_349 (fp_X10_14 _) dX10_event_7 h (fun w30 h => ?_)
    refine rv_iconst (v := 0) dX10_event_10 (by decide) ?_
    exact rv_iret .int dX10_event_11 rfl rfl (rRetIw h)
set_option maxRecDepth 20000 in
theorem E_X10_happens_52 {w0 : rW}  (x0 : Nat)   : ∀ (f : Nat) (x3 : Int32) (w : rW), J_X10_happens_52 x0 f x3 w = some w0 → rEv mX10_happens 4 0 0 52 [(0, .ref x0), (3, .int x3)] [] w (rIs none w0) := by
  intro f
  induction f with
  | zero =>
    intro x3 w h
    exact absurd (show (none : Option rW) = some w0 from h) (by simp)
  | succ f ih =>
    intro x3 w h
    rw [J_X10_happens_52] at h
    refine rv_iload_n 1 dX10_happens_52 rfl ?_
    refine rv_aload_n 0 dX10_happens_53 rfl ?_
    refine rv_getI ff_X10_110 dX10_happens_54 h (fun v11 h => ?_)
    refine rv_icmp_ge 79 dX10_happens_57 (by decide) (fun c12 => ?_) (fun c12 => ?_)
    · replace h := rIfT h c12
      exact rv_vret dX10_happens_79 rfl (rRetV h)
    · replace h := rIfF h c12
      refine rv_aload_n 0 dX10_happens_60 rfl ?_
      refine rv_getR ff_X10_28 dX10_happens_61 h (fun a13 h => ?_)
      refine rv_iload_n 1 dX10_happens_64 rfl ?_
      refine rv_aload_n 0 dX10_happens_65 rfl ?_
      refine rv_getR ff_X10_28 dX10_happens_66 h (fun a14 h => ?_)
      refine rv_iload_n 1 dX10_happens_69 rfl ?_
      refine rv_iaload dX10_happens_70 h (fun v15 h => ?_)
      refine rv_ineg dX10_happens_71 ?_
      refine rv_iastore dX10_happens_72 h (fun w16 h => ?_)
      obtain ⟨v17, ev17, h⟩ := rLetE h
      refine rv_iinc (v := v17) (l2 := [(3, .int v17), (0, .ref x0)]) 1 dX10_happens_73 rfl (by rw [ev17]; rfl) rfl rfl ?_
      clear ev17
      refine rv_goto 52 dX10_happens_76 (by decide) ?_
      exact rv_sub [1, 0] rfl (ih v17 w16 h)
set_option maxRecDepth 20000 in
theorem E_X10_happens {x0 : Nat} {x1 : Int32} {x2 : Int32} {w0 : rW} {w : rW} (h : J_X10_happens x0 x1 x2 w = some w0) : (∃ fs, w[x0]? = some (cO 10 fs)) ∧ rMet mX10_happens 4 0 0 [.ref x0, .int x1, .int x2] w (rIs none w0) := by
  unfold J_X10_happens at h
  obtain ⟨hrc, h⟩ := rRc_some h
  refine ⟨hrc, ?_⟩
  refine rMet_of (by decide) rfl ?_
  refine rv_iload_n 1 dX10_happens_0 rfl ?_
  refine rIf h (fun c1 h => ?_) (fun c1 h => ?_)
  · refine rv_tswIn 32 dX10_happens_1 c1 (by decide) (by decide) rfl (by decide) ?_
    refine rv_aload_n 0 dX10_happens_32 rfl ?_
    refine rv_iload_n 2 dX10_happens_33 rfl ?_
    obtain ⟨b3, w4, h2, h⟩ := rB2_some h
    refine rv_callVr (k3 := 0) (n3 := 0) (st2 := []) caX10_twists cvX10_twists ml_X10_157 dX10_happens_34 rfl (E_X10_twists h2).2 (E_X10_twists h2).1 rfl rfl rfl rfl rfl ?_
    clear h2
    refine rv_if_eq 49 dX10_happens_37 (by decide) (fun c5 => ?_) (fun c5 => ?_)
    · replace h := rIfT h c5
      exact rv_vret dX10_happens_49 rfl (rRetV h)
    · replace h := rIfF h c5
      refine rv_aload_n 0 dX10_happens_40 rfl ?_
      refine rv_iconst (v := 1) dX10_happens_41 (by decide) ?_
      obtain ⟨b7, w8, h6, h⟩ := rB2_some h
      refine rv_callVr (k3 := 0) (n3 := 0) (st2 := []) caX10_adds cvX10_adds ml_X10_164 dX10_happens_42 rfl (E_X10_adds h6).2 (E_X10_adds h6).1 rfl rfl rfl rfl rfl ?_
      clear h6
      refine rv_if_eq 49 dX10_happens_45 (by decide) (fun c9 => ?_) (fun c9 => ?_)
      · replace h := rIfT h c9
        exact rv_vret dX10_happens_49 rfl (rRetV h)
      · replace h := rIfF h c9
        exact rv_vret dX10_happens_48 rfl (rRetV h)
  refine rIf h (fun c10 h => ?_) (fun c10 h => ?_)
  · refine rv_tswIn 50 dX10_happens_1 c10 (by decide) (by decide) rfl (by decide) ?_
    refine rv_iconst (v := 0) dX10_happens_50 (by decide) ?_
    refine rv_istore_n (l2 := [(3, .int 0), (0, .ref x0), (1, .int x1), (2, .int x2)]) dX10_happens_51 rfl rfl ?_
    exact rv_sub [1, 0] rfl (E_X10_happens_52 x0 2000 0 w h)
  refine rIf h (fun c18 h => ?_) (fun c18 h => ?_)
  · refine rv_tswIn 80 dX10_happens_1 c18 (by decide) (by decide) rfl (by decide) ?_
    refine rv_aload_n 0 dX10_happens_80 rfl ?_
    obtain ⟨b20, h19, h⟩ := rBind h
    refine rv_callVr (k3 := 0) (n3 := 0) (st2 := []) caX10_maySwap cvX10_maySwap ml_X10_182 dX10_happens_81 rfl (E_X10_maySwap h19).2 (E_X10_maySwap h19).1 rfl rfl rfl rfl rfl ?_
    clear h19
    refine rv_if_eq 91 dX10_happens_84 (by decide) (fun c21 => ?_) (fun c21 => ?_)
    · replace h := rIfT h c21
      exact rv_vret dX10_happens_91 rfl (rRetV h)
    · replace h := rIfF h c21
      refine rv_aload_n 0 dX10_happens_87 rfl ?_
      obtain ⟨w23, h22, h⟩ := rBind h
      refine rv_callVv (k3 := 0) (n3 := 0) (st2 := []) caX10_swaps cvX10_swaps ml_X10_185 dX10_happens_88 rfl (E_X10_swaps h22).2 (E_X10_swaps h22).1 rfl rfl rfl rfl rfl ?_
      clear h22
      exact rv_vret dX10_happens_91 rfl (rRetV h)
  refine rIf h (fun c24 h => ?_) (fun c24 h => ?_)
  · refine rv_tswIn 92 dX10_happens_1 c24 (by decide) (by decide) rfl (by decide) ?_
    refine rv_aload_n 0 dX10_happens_92 rfl ?_
    refine rv_iload_n 2 dX10_happens_93 rfl ?_
    obtain ⟨b26, h25, h⟩ := rBind h
    refine rv_callVr (k3 := 0) (n3 := 0) (st2 := []) caX10_isBlock cvX10_isBlock ml_X10_140 dX10_happens_94 rfl (E_X10_isBlock h25).2 (E_X10_isBlock h25).1 rfl rfl rfl rfl rfl ?_
    clear h25
    refine rv_if_eq 114 dX10_happens_97 (by decide) (fun c27 => ?_) (fun c27 => ?_)
    · replace h := rIfT h c27
      exact rv_vret dX10_happens_114 rfl (rRetV h)
    · replace h := rIfF h c27
      refine rv_aload_n 0 dX10_happens_100 rfl ?_
      refine rv_getR ff_X10_31 dX10_happens_101 h (fun a28 h => ?_)
      refine rv_iload_n 2 dX10_happens_104 rfl ?_
      refine rv_iconst (v := 1) dX10_happens_105 (by decide) ?_
      refine rv_aload_n 0 dX10_happens_106 rfl ?_
      refine rv_getR ff_X10_31 dX10_happens_107 h (fun a29 h => ?_)
      refine rv_iload_n 2 dX10_happens_110 rfl ?_
      refine rv_iaload dX10_happens_111 h (fun v30 h => ?_)
      refine rv_isub dX10_happens_112 ?_
      refine rv_iastore dX10_happens_113 h (fun w31 h => ?_)
      exact rv_vret dX10_happens_114 rfl (rRetV h)
  refine rv_tswOut 115 [0, 1, 2, 3] dX10_happens_1 (by decide) (by decide) (by decide) (fun v hv => ?_) ?_
  · simp only [List.mem_cons, List.not_mem_nil, or_false] at hv
    rcases hv with rfl | rfl | rfl | rfl
    · exact c1
    · exact c10
    · exact c18
    · exact c24
  refine rv_aload_n 0 dX10_happens_115 rfl ?_
  refine rv_iload_n 2 dX10_happens_116 rfl ?_
  obtain ⟨b33, h32, h⟩ := rBind h
  refine rv_callVr (k3 := 0) (n3 := 0) (st2 := []) caX10_isBlock cvX10_isBlock ml_X10_140 dX10_happens_117 rfl (E_X10_isBlock h32).2 (E_X10_isBlock h32).1 rfl rfl rfl rfl rfl ?_
  clear h32
  refine rv_if_eq 144 dX10_happens_120 (by decide) (fun c34 => ?_) (fun c34 => ?_)
  · replace h := rIfT h c34
    exact rv_vret dX10_happens_144 rfl (rRetV h)
  · replace h := rIfF h c34
    refine rv_aload_n 0 dX10_happens_123 rfl ?_
    refine rv_getR ff_X10_28 dX10_happens_124 h (fun a35 h => ?_)
    refine rv_iload_n 2 dX10_happens_127 rfl ?_
    refine rv_iaload dX10_happens_128 h (fun v36 h => ?_)
    refine rv_bipush (v := 99) dX10_happens_129 (by decide) ?_
    refine rv_icmp_ge 144 dX10_happens_131 (by decide) (fun c37 => ?_) (fun c37 => ?_)
    · replace h := rIfT h c37
      exact rv_vret dX10_happens_144 rfl (rRetV h)
    · replace h := rIfF h c37
      refine rv_aload_n 0 dX10_happens_134 rfl ?_
      refine rv_getR ff_X10_28 dX10_happens_135 h (fun a38 h => ?_)
      refine rv_iload_n 2 dX10_happens_138 rfl ?_
      refine rv_dup2 dX10_happens_139 rfl rfl ?_
      refine rv_iaload dX10_happens_140 h (fun v39 h => ?_)
      refine rv_iconst (v := 1) dX10_happens_141 (by decide) ?_
      refine rv_iadd dX10_happens_142 ?_
      refine rv_iastore dX10_happens_143 h (fun w40 h => ?_)
      exact rv_vret dX10_happens_144 rfl (rRetV h)
set_option maxRecDepth 20000 in
theorem E_X10_keepTo_143 {w0 : rW}  (x0 : Nat) (x1 : Nat)   : ∀ (f : Nat) (x2 : Int32) (w : rW), J_X10_keepTo_143 x0 x1 f x2 w = some w0 → rEv mX10_keepTo 0 0 0 143 [(0, .ref x0), (1, .ref x1), (2, .int x2)] [] w (rIs none w0) := by
  intro f
  induction f with
  | zero =>
    intro x2 w h
    exact absurd (show (none : Option rW) = some w0 from h) (by simp)
  | succ f ih =>
    intro x2 w h
    rw [J_X10_keepTo_143] at h
    refine rv_iload_n 2 dX10_keepTo_143 rfl ?_
    refine rv_bipush (v := 56) dX10_keepTo_144 (by decide) ?_
    refine rv_icmp_ge 192 dX10_keepTo_146 (by decide) (fun c15 => ?_) (fun c15 => ?_)
    · replace h := rIfT h c15
      exact rv_vret dX10_keepTo_192 rfl (rRetV h)
    · replace h := rIfF h c15
      refine rv_aload_n 1 dX10_keepTo_149 rfl ?_
      refine rv_bipush (v := 46) dX10_keepTo_150 (by decide) ?_
      refine rv_iload_n 2 dX10_keepTo_152 rfl ?_
      refine rv_iadd dX10_keepTo_153 ?_
      refine rv_aload_n 0 dX10_keepTo_154 rfl ?_
      refine rv_getR ff_X10_28 dX10_keepTo_155 h (fun a16 h => ?_)
      refine rv_iload_n 2 dX10_keepTo_158 rfl ?_
      refine rv_iaload dX10_keepTo_159 h (fun v17 h => ?_)
      refine rv_iastore dX10_keepTo_160 h (fun w18 h => ?_)
      refine rv_aload_n 1 dX10_keepTo_161 rfl ?_
      refine rv_bipush (v := 102) dX10_keepTo_162 (by decide) ?_
      refine rv_iload_n 2 dX10_keepTo_164 rfl ?_
      refine rv_iadd dX10_keepTo_165 ?_
      refine rv_aload_n 0 dX10_keepTo_166 rfl ?_
      refine rv_getR ff_X10_31 dX10_keepTo_167 h (fun a19 h => ?_)
      refine rv_iload_n 2 dX10_keepTo_170 rfl ?_
      refine rv_iaload dX10_keepTo_171 h (fun v20 h => ?_)
      refine rv_iastore dX10_keepTo_172 h (fun w21 h => ?_)
      refine rv_aload_n 1 dX10_keepTo_173 rfl ?_
      refine rv_sipush (v := 158) dX10_keepTo_174 (by decide) ?_
      refine rv_iload_n 2 dX10_keepTo_177 rfl ?_
      refine rv_iadd dX10_keepTo_178 ?_
      refine rv_aload_n 0 dX10_keepTo_179 rfl ?_
      refine rv_getR ff_X10_34 dX10_keepTo_180 h (fun a22 h => ?_)
      refine rv_iload_n 2 dX10_keepTo_183 rfl ?_
      refine rv_iaload dX10_keepTo_184 h (fun v23 h => ?_)
      refine rv_iastore dX10_keepTo_185 h (fun w24 h => ?_)
      obtain ⟨v25, ev25, h⟩ := rLetE h
      refine rv_iinc (v := v25) (l2 := [(2, .int v25), (0, .ref x0), (1, .ref x1)]) 2 dX10_keepTo_186 rfl (by rw [ev25]; rfl) rfl rfl ?_
      clear ev25
      refine rv_goto 143 dX10_keepTo_189 (by decide) ?_
      exact rv_sub [1, 2, 0] rfl (ih v25 w24 h)
set_option maxRecDepth 20000 in
theorem E_X10_keepTo_81 {w0 : rW}  (x0 : Nat) (x1 : Nat)  {K141 : rW → Option rW} (hK141 : ∀ (w : rW), K141 w = some w0 → rEv mX10_keepTo 0 0 0 141 [(0, .ref x0), (1, .ref x1)] [] w (rIs none w0)) : ∀ (f : Nat) (x2 : Int32) (w : rW), J_X10_keepTo_81 x0 x1 K141 f x2 w = some w0 → rEv mX10_keepTo 0 0 0 81 [(0, .ref x0), (1, .ref x1), (2, .int x2)] [] w (rIs none w0) := by
  intro f
  induction f with
  | zero =>
    intro x2 w h
    exact absurd (show (none : Option rW) = some w0 from h) (by simp)
  | succ f ih =>
    intro x2 w h
    rw [J_X10_keepTo_81] at h
    refine rv_iload_n 2 dX10_keepTo_81 rfl ?_
    refine rv_bipush (v := 8) dX10_keepTo_82 (by decide) ?_
    refine rv_icmp_ge 141 dX10_keepTo_84 (by decide) (fun c26 => ?_) (fun c26 => ?_)
    · replace h := rIfT h c26
      exact rv_sub [0, 1] rfl (hK141 w h)
    · replace h := rIfF h c26
      refine rv_aload_n 1 dX10_keepTo_87 rfl ?_
      refine rv_bipush (v := 14) dX10_keepTo_88 (by decide) ?_
      refine rv_iload_n 2 dX10_keepTo_90 rfl ?_
      refine rv_iadd dX10_keepTo_91 ?_
      refine rv_aload_n 0 dX10_keepTo_92 rfl ?_
      refine rv_getR ff_X10_43 dX10_keepTo_93 h (fun a27 h => ?_)
      refine rv_iload_n 2 dX10_keepTo_96 rfl ?_
      refine rv_iaload dX10_keepTo_97 h (fun v28 h => ?_)
      refine rv_iastore dX10_keepTo_98 h (fun w29 h => ?_)
      refine rv_aload_n 1 dX10_keepTo_99 rfl ?_
      refine rv_bipush (v := 22) dX10_keepTo_100 (by decide) ?_
      refine rv_iload_n 2 dX10_keepTo_102 rfl ?_
      refine rv_iadd dX10_keepTo_103 ?_
      refine rv_aload_n 0 dX10_keepTo_104 rfl ?_
      refine rv_getR ff_X10_46 dX10_keepTo_105 h (fun a30 h => ?_)
      refine rv_iload_n 2 dX10_keepTo_108 rfl ?_
      refine rv_iaload dX10_keepTo_109 h (fun v31 h => ?_)
      refine rv_iastore dX10_keepTo_110 h (fun w32 h => ?_)
      refine rv_aload_n 1 dX10_keepTo_111 rfl ?_
      refine rv_bipush (v := 30) dX10_keepTo_112 (by decide) ?_
      refine rv_iload_n 2 dX10_keepTo_114 rfl ?_
      refine rv_iadd dX10_keepTo_115 ?_
      refine rv_aload_n 0 dX10_keepTo_116 rfl ?_
      refine rv_getR ff_X10_49 dX10_keepTo_117 h (fun a33 h => ?_)
      refine rv_iload_n 2 dX10_keepTo_120 rfl ?_
      refine rv_iaload dX10_keepTo_121 h (fun v34 h => ?_)
      refine rv_iastore dX10_keepTo_122 h (fun w35 h => ?_)
      refine rv_aload_n 1 dX10_keepTo_123 rfl ?_
      refine rv_bipush (v := 38) dX10_keepTo_124 (by decide) ?_
      refine rv_iload_n 2 dX10_keepTo_126 rfl ?_
      refine rv_iadd dX10_keepTo_127 ?_
      refine rv_aload_n 0 dX10_keepTo_128 rfl ?_
      refine rv_getR ff_X10_52 dX10_keepTo_129 h (fun a36 h => ?_)
      refine rv_iload_n 2 dX10_keepTo_132 rfl ?_
      refine rv_iaload dX10_keepTo_133 h (fun v37 h => ?_)
      refine rv_iastore dX10_keepTo_134 h (fun w38 h => ?_)
      obtain ⟨v39, ev39, h⟩ := rLetE h
      refine rv_iinc (v := v39) (l2 := [(2, .int v39), (0, .ref x0), (1, .ref x1)]) 2 dX10_keepTo_135 rfl (by rw [ev39]; rfl) rfl rfl ?_
      clear ev39
      refine rv_goto 81 dX10_keepTo_138 (by decide) ?_
      exact rv_sub [1, 2, 0] rfl (ih v39 w38 h)
set_option maxRecDepth 20000 in
theorem E_X10_keepTo_44 {w0 : rW}  (x0 : Nat) (x1 : Nat)  {K79 : rW → Option rW} (hK79 : ∀ (w : rW), K79 w = some w0 → rEv mX10_keepTo 0 0 0 79 [(0, .ref x0), (1, .ref x1)] [] w (rIs none w0)) : ∀ (f : Nat) (x2 : Int32) (w : rW), J_X10_keepTo_44 x0 x1 K79 f x2 w = some w0 → rEv mX10_keepTo 0 0 0 44 [(0, .ref x0), (1, .ref x1), (2, .int x2)] [] w (rIs none w0) := by
  intro f
  induction f with
  | zero =>
    intro x2 w h
    exact absurd (show (none : Option rW) = some w0 from h) (by simp)
  | succ f ih =>
    intro x2 w h
    rw [J_X10_keepTo_44] at h
    refine rv_iload_n 2 dX10_keepTo_44 rfl ?_
    refine rv_iconst (v := 4) dX10_keepTo_45 (by decide) ?_
    refine rv_icmp_ge 79 dX10_keepTo_46 (by decide) (fun c40 => ?_) (fun c40 => ?_)
    · replace h := rIfT h c40
      exact rv_sub [0, 1] rfl (hK79 w h)
    · replace h := rIfF h c40
      refine rv_aload_n 1 dX10_keepTo_49 rfl ?_
      refine rv_bipush (v := 6) dX10_keepTo_50 (by decide) ?_
      refine rv_iload_n 2 dX10_keepTo_52 rfl ?_
      refine rv_iadd dX10_keepTo_53 ?_
      refine rv_aload_n 0 dX10_keepTo_54 rfl ?_
      refine rv_getR ff_X10_37 dX10_keepTo_55 h (fun a41 h => ?_)
      refine rv_iload_n 2 dX10_keepTo_58 rfl ?_
      refine rv_iaload dX10_keepTo_59 h (fun v42 h => ?_)
      refine rv_iastore dX10_keepTo_60 h (fun w43 h => ?_)
      refine rv_aload_n 1 dX10_keepTo_61 rfl ?_
      refine rv_bipush (v := 10) dX10_keepTo_62 (by decide) ?_
      refine rv_iload_n 2 dX10_keepTo_64 rfl ?_
      refine rv_iadd dX10_keepTo_65 ?_
      refine rv_aload_n 0 dX10_keepTo_66 rfl ?_
      refine rv_getR ff_X10_40 dX10_keepTo_67 h (fun a44 h => ?_)
      refine rv_iload_n 2 dX10_keepTo_70 rfl ?_
      refine rv_iaload dX10_keepTo_71 h (fun v45 h => ?_)
      refine rv_iastore dX10_keepTo_72 h (fun w46 h => ?_)
      obtain ⟨v47, ev47, h⟩ := rLetE h
      refine rv_iinc (v := v47) (l2 := [(2, .int v47), (0, .ref x0), (1, .ref x1)]) 2 dX10_keepTo_73 rfl (by rw [ev47]; rfl) rfl rfl ?_
      clear ev47
      refine rv_goto 44 dX10_keepTo_76 (by decide) ?_
      exact rv_sub [1, 2, 0] rfl (ih v47 w46 h)
set_option maxRecDepth 20000 in
theorem E_X10_keepTo {x0 : Nat} {x1 : Nat} {w0 : rW} {w : rW} (h : J_X10_keepTo x0 x1 w = some w0) : (∃ fs, w[x0]? = some (cO 10 fs)) ∧ rMet mX10_keepTo 0 0 0 [.ref x0, .ref x1] w (rIs none w0) := by
  unfold J_X10_keepTo at h
  obtain ⟨hrc, h⟩ := rRc_some h
  refine ⟨hrc, ?_⟩
  refine rMet_of (by decide) rfl ?_
  refine rv_aload_n 1 dX10_keepTo_0 rfl ?_
  refine rv_iconst (v := 0) dX10_keepTo_1 (by decide) ?_
  refine rv_aload_n 0 dX10_keepTo_2 rfl ?_
  refine rv_getI ff_X10_9 dX10_keepTo_3 h (fun v1 h => ?_)
  refine rv_iastore dX10_keepTo_6 h (fun w2 h => ?_)
  refine rv_aload_n 1 dX10_keepTo_7 rfl ?_
  refine rv_iconst (v := 1) dX10_keepTo_8 (by decide) ?_
  refine rv_aload_n 0 dX10_keepTo_9 rfl ?_
  refine rv_getI ff_X10_15 dX10_keepTo_10 h (fun v3 h => ?_)
  refine rv_iastore dX10_keepTo_13 h (fun w4 h => ?_)
  refine rv_aload_n 1 dX10_keepTo_14 rfl ?_
  refine rv_iconst (v := 2) dX10_keepTo_15 (by decide) ?_
  refine rv_aload_n 0 dX10_keepTo_16 rfl ?_
  refine rv_getI ff_X10_18 dX10_keepTo_17 h (fun v5 h => ?_)
  refine rv_iastore dX10_keepTo_20 h (fun w6 h => ?_)
  refine rv_aload_n 1 dX10_keepTo_21 rfl ?_
  refine rv_iconst (v := 3) dX10_keepTo_22 (by decide) ?_
  refine rv_aload_n 0 dX10_keepTo_23 rfl ?_
  refine rv_getI ff_X10_333 dX10_keepTo_24 h (fun v7 h => ?_)
  refine rv_iastore dX10_keepTo_27 h (fun w8 h => ?_)
  refine rv_aload_n 1 dX10_keepTo_28 rfl ?_
  refine rv_iconst (v := 4) dX10_keepTo_29 (by decide) ?_
  refine rv_aload_n 0 dX10_keepTo_30 rfl ?_
  refine rv_getI ff_X10_349 dX10_keepTo_31 h (fun v9 h => ?_)
  refine rv_iastore dX10_keepTo_34 h (fun w10 h => ?_)
  refine rv_aload_n 1 dX10_keepTo_35 rfl ?_
  refine rv_iconst (v := 5) dX10_keepTo_36 (by decide) ?_
  refine rv_aload_n 0 dX10_keepTo_37 rfl ?_
  refine rv_getI ff_X10_363 dX10_keepTo_38 h (fun v11 h => ?_)
  refine rv_iastore dX10_keepTo_41 h (fun w12 h => ?_)
  refine rv_iconst (v := 0) dX10_keepTo_42 (by decide) ?_
  refine rv_istore_n (l2 := [(2, .int 0), (0, .ref x0), (1, .ref x1)]) dX10_keepTo_43 rfl rfl ?_
  obtain ⟨K79, eK79, h⟩ := rLetE h
  have hK79 : ∀ (w : rW), K79 w = some w0 → rEv mX10_keepTo 0 0 0 79 [(0, .ref x0), (1, .ref x1)] [] w (rIs none w0) := by
    intro w13 h
    rw [eK79] at h
    refine rv_iconst (v := 0) dX10_keepTo_79 (by decide) ?_
    refine rv_istore_n (l2 := [(2, .int 0), (0, .ref x0), (1, .ref x1)]) dX10_keepTo_80 rfl rfl ?_
    obtain ⟨K141, eK141, h⟩ := rLetE h
    have hK141 : ∀ (w : rW), K141 w = some w0 → rEv mX10_keepTo 0 0 0 141 [(0, .ref x0), (1, .ref x1)] [] w (rIs none w0) := by
      intro w14 h
      rw [eK141] at h
      refine rv_iconst (v := 0) dX10_keepTo_141 (by decide) ?_
      refine rv_istore_n (l2 := [(2, .int 0), (0, .ref x0), (1, .ref x1)]) dX10_keepTo_142 rfl rfl ?_
      exact rv_sub [1, 2, 0] rfl (E_X10_keepTo_143 x0 x1 2000 0 w14 h)
    clear eK141
    exact rv_sub [1, 2, 0] rfl (E_X10_keepTo_81 x0 x1 hK141 2000 0 w13 h)
  clear eK79
  exact rv_sub [1, 2, 0] rfl (E_X10_keepTo_44 x0 x1 hK79 2000 0 w12 h)
set_option maxRecDepth 20000 in
theorem E_X10_again_147 {w0 : rW}  (x0 : Nat) (x1 : Nat)   : ∀ (f : Nat) (x2 : Int32) (w : rW), J_X10_again_147 x0 x1 f x2 w = some w0 → rEv mX10_again 3 0 0 147 [(0, .ref x0), (1, .ref x1), (2, .int x2)] [] w (rIs none w0) := by
  intro f
  induction f with
  | zero =>
    intro x2 w h
    exact absurd (show (none : Option rW) = some w0 from h) (by simp)
  | succ f ih =>
    intro x2 w h
    rw [J_X10_again_147] at h
    refine rv_iload_n 2 dX10_again_147 rfl ?_
    refine rv_bipush (v := 56) dX10_again_148 (by decide) ?_
    refine rv_icmp_ge 196 dX10_again_150 (by decide) (fun c17 => ?_) (fun c17 => ?_)
    · replace h := rIfT h c17
      exact rv_vret dX10_again_196 rfl (rRetV h)
    · replace h := rIfF h c17
      refine rv_aload_n 0 dX10_again_153 rfl ?_
      refine rv_getR ff_X10_28 dX10_again_154 h (fun a18 h => ?_)
      refine rv_iload_n 2 dX10_again_157 rfl ?_
      refine rv_aload_n 1 dX10_again_158 rfl ?_
      refine rv_bipush (v := 46) dX10_again_159 (by decide) ?_
      refine rv_iload_n 2 dX10_again_161 rfl ?_
      refine rv_iadd dX10_again_162 ?_
      refine rv_iaload dX10_again_163 h (fun v19 h => ?_)
      refine rv_iastore dX10_again_164 h (fun w20 h => ?_)
      refine rv_aload_n 0 dX10_again_165 rfl ?_
      refine rv_getR ff_X10_31 dX10_again_166 h (fun a21 h => ?_)
      refine rv_iload_n 2 dX10_again_169 rfl ?_
      refine rv_aload_n 1 dX10_again_170 rfl ?_
      refine rv_bipush (v := 102) dX10_again_171 (by decide) ?_
      refine rv_iload_n 2 dX10_again_173 rfl ?_
      refine rv_iadd dX10_again_174 ?_
      refine rv_iaload dX10_again_175 h (fun v22 h => ?_)
      refine rv_iastore dX10_again_176 h (fun w23 h => ?_)
      refine rv_aload_n 0 dX10_again_177 rfl ?_
      refine rv_getR ff_X10_34 dX10_again_178 h (fun a24 h => ?_)
      refine rv_iload_n 2 dX10_again_181 rfl ?_
      refine rv_aload_n 1 dX10_again_182 rfl ?_
      refine rv_sipush (v := 158) dX10_again_183 (by decide) ?_
      refine rv_iload_n 2 dX10_again_186 rfl ?_
      refine rv_iadd dX10_again_187 ?_
      refine rv_iaload dX10_again_188 h (fun v25 h => ?_)
      refine rv_iastore dX10_again_189 h (fun w26 h => ?_)
      obtain ⟨v27, ev27, h⟩ := rLetE h
      refine rv_iinc (v := v27) (l2 := [(2, .int v27), (0, .ref x0), (1, .ref x1)]) 2 dX10_again_190 rfl (by rw [ev27]; rfl) rfl rfl ?_
      clear ev27
      refine rv_goto 147 dX10_again_193 (by decide) ?_
      exact rv_sub [1, 2, 0] rfl (ih v27 w26 h)
set_option maxRecDepth 20000 in
theorem E_X10_again_85 {w0 : rW}  (x0 : Nat) (x1 : Nat)  {K145 : rW → Option rW} (hK145 : ∀ (w : rW), K145 w = some w0 → rEv mX10_again 3 0 0 145 [(0, .ref x0), (1, .ref x1)] [] w (rIs none w0)) : ∀ (f : Nat) (x2 : Int32) (w : rW), J_X10_again_85 x0 x1 K145 f x2 w = some w0 → rEv mX10_again 3 0 0 85 [(0, .ref x0), (1, .ref x1), (2, .int x2)] [] w (rIs none w0) := by
  intro f
  induction f with
  | zero =>
    intro x2 w h
    exact absurd (show (none : Option rW) = some w0 from h) (by simp)
  | succ f ih =>
    intro x2 w h
    rw [J_X10_again_85] at h
    refine rv_iload_n 2 dX10_again_85 rfl ?_
    refine rv_bipush (v := 8) dX10_again_86 (by decide) ?_
    refine rv_icmp_ge 145 dX10_again_88 (by decide) (fun c28 => ?_) (fun c28 => ?_)
    · replace h := rIfT h c28
      exact rv_sub [0, 1] rfl (hK145 w h)
    · replace h := rIfF h c28
      refine rv_aload_n 0 dX10_again_91 rfl ?_
      refine rv_getR ff_X10_43 dX10_again_92 h (fun a29 h => ?_)
      refine rv_iload_n 2 dX10_again_95 rfl ?_
      refine rv_aload_n 1 dX10_again_96 rfl ?_
      refine rv_bipush (v := 14) dX10_again_97 (by decide) ?_
      refine rv_iload_n 2 dX10_again_99 rfl ?_
      refine rv_iadd dX10_again_100 ?_
      refine rv_iaload dX10_again_101 h (fun v30 h => ?_)
      refine rv_iastore dX10_again_102 h (fun w31 h => ?_)
      refine rv_aload_n 0 dX10_again_103 rfl ?_
      refine rv_getR ff_X10_46 dX10_again_104 h (fun a32 h => ?_)
      refine rv_iload_n 2 dX10_again_107 rfl ?_
      refine rv_aload_n 1 dX10_again_108 rfl ?_
      refine rv_bipush (v := 22) dX10_again_109 (by decide) ?_
      refine rv_iload_n 2 dX10_again_111 rfl ?_
      refine rv_iadd dX10_again_112 ?_
      refine rv_iaload dX10_again_113 h (fun v33 h => ?_)
      refine rv_iastore dX10_again_114 h (fun w34 h => ?_)
      refine rv_aload_n 0 dX10_again_115 rfl ?_
      refine rv_getR ff_X10_49 dX10_again_116 h (fun a35 h => ?_)
      refine rv_iload_n 2 dX10_again_119 rfl ?_
      refine rv_aload_n 1 dX10_again_120 rfl ?_
      refine rv_bipush (v := 30) dX10_again_121 (by decide) ?_
      refine rv_iload_n 2 dX10_again_123 rfl ?_
      refine rv_iadd dX10_again_124 ?_
      refine rv_iaload dX10_again_125 h (fun v36 h => ?_)
      refine rv_iastore dX10_again_126 h (fun w37 h => ?_)
      refine rv_aload_n 0 dX10_again_127 rfl ?_
      refine rv_getR ff_X10_52 dX10_again_128 h (fun a38 h => ?_)
      refine rv_iload_n 2 dX10_again_131 rfl ?_
      refine rv_aload_n 1 dX10_again_132 rfl ?_
      refine rv_bipush (v := 38) dX10_again_133 (by decide) ?_
      refine rv_iload_n 2 dX10_again_135 rfl ?_
      refine rv_iadd dX10_again_136 ?_
      refine rv_iaload dX10_again_137 h (fun v39 h => ?_)
      refine rv_iastore dX10_again_138 h (fun w40 h => ?_)
      obtain ⟨v41, ev41, h⟩ := rLetE h
      refine rv_iinc (v := v41) (l2 := [(2, .int v41), (0, .ref x0), (1, .ref x1)]) 2 dX10_again_139 rfl (by rw [ev41]; rfl) rfl rfl ?_
      clear ev41
      refine rv_goto 85 dX10_again_142 (by decide) ?_
      exact rv_sub [1, 2, 0] rfl (ih v41 w40 h)
set_option maxRecDepth 20000 in
theorem E_X10_again_48 {w0 : rW}  (x0 : Nat) (x1 : Nat)  {K83 : rW → Option rW} (hK83 : ∀ (w : rW), K83 w = some w0 → rEv mX10_again 3 0 0 83 [(0, .ref x0), (1, .ref x1)] [] w (rIs none w0)) : ∀ (f : Nat) (x2 : Int32) (w : rW), J_X10_again_48 x0 x1 K83 f x2 w = some w0 → rEv mX10_again 3 0 0 48 [(0, .ref x0), (1, .ref x1), (2, .int x2)] [] w (rIs none w0) := by
  intro f
  induction f with
  | zero =>
    intro x2 w h
    exact absurd (show (none : Option rW) = some w0 from h) (by simp)
  | succ f ih =>
    intro x2 w h
    rw [J_X10_again_48] at h
    refine rv_iload_n 2 dX10_again_48 rfl ?_
    refine rv_iconst (v := 4) dX10_again_49 (by decide) ?_
    refine rv_icmp_ge 83 dX10_again_50 (by decide) (fun c42 => ?_) (fun c42 => ?_)
    · replace h := rIfT h c42
      exact rv_sub [0, 1] rfl (hK83 w h)
    · replace h := rIfF h c42
      refine rv_aload_n 0 dX10_again_53 rfl ?_
      refine rv_getR ff_X10_37 dX10_again_54 h (fun a43 h => ?_)
      refine rv_iload_n 2 dX10_again_57 rfl ?_
      refine rv_aload_n 1 dX10_again_58 rfl ?_
      refine rv_bipush (v := 6) dX10_again_59 (by decide) ?_
      refine rv_iload_n 2 dX10_again_61 rfl ?_
      refine rv_iadd dX10_again_62 ?_
      refine rv_iaload dX10_again_63 h (fun v44 h => ?_)
      refine rv_iastore dX10_again_64 h (fun w45 h => ?_)
      refine rv_aload_n 0 dX10_again_65 rfl ?_
      refine rv_getR ff_X10_40 dX10_again_66 h (fun a46 h => ?_)
      refine rv_iload_n 2 dX10_again_69 rfl ?_
      refine rv_aload_n 1 dX10_again_70 rfl ?_
      refine rv_bipush (v := 10) dX10_again_71 (by decide) ?_
      refine rv_iload_n 2 dX10_again_73 rfl ?_
      refine rv_iadd dX10_again_74 ?_
      refine rv_iaload dX10_again_75 h (fun v47 h => ?_)
      refine rv_iastore dX10_again_76 h (fun w48 h => ?_)
      obtain ⟨v49, ev49, h⟩ := rLetE h
      refine rv_iinc (v := v49) (l2 := [(2, .int v49), (0, .ref x0), (1, .ref x1)]) 2 dX10_again_77 rfl (by rw [ev49]; rfl) rfl rfl ?_
      clear ev49
      refine rv_goto 48 dX10_again_80 (by decide) ?_
      exact rv_sub [1, 2, 0] rfl (ih v49 w48 h)
set_option maxRecDepth 20000 in
theorem E_X10_again {x0 : Nat} {x1 : Nat} {w0 : rW} {w : rW} (h : J_X10_again x0 x1 w = some w0) : (∃ fs, w[x0]? = some (cO 10 fs)) ∧ rMet mX10_again 3 0 0 [.ref x0, .ref x1] w (rIs none w0) := by
  unfold J_X10_again at h
  obtain ⟨hrc, h⟩ := rRc_some h
  refine ⟨hrc, ?_⟩
  refine rMet_of (by decide) rfl ?_
  refine rv_aload_n 0 dX10_again_0 rfl ?_
  refine rv_aload_n 1 dX10_again_1 rfl ?_
  refine rv_iconst (v := 0) dX10_again_2 (by decide) ?_
  refine rv_iaload dX10_again_3 h (fun v1 h => ?_)
  refine rv_putI ff_X10_9 (fp_X10_0 _) dX10_again_4 h (fun w2 h => ?_)
  refine rv_aload_n 0 dX10_again_7 rfl ?_
  refine rv_aload_n 1 dX10_again_8 rfl ?_
  refine rv_iconst (v := 1) dX10_again_9 (by decide) ?_
  refine rv_iaload dX10_again_10 h (fun v3 h => ?_)
  refine rv_putI ff_X10_15 (fp_X10_1 _) dX10_again_11 h (fun w4 h => ?_)
  refine rv_aload_n 0 dX10_again_14 rfl ?_
  refine rv_aload_n 1 dX10_again_15 rfl ?_
  refine rv_iconst (v := 2) dX10_again_16 (by decide) ?_
  refine rv_iaload dX10_again_17 h (fun v5 h => ?_)
  refine rv_putI ff_X10_18 (fp_X10_2 _) dX10_again_18 h (fun w6 h => ?_)
  refine rv_aload_n 0 dX10_again_21 rfl ?_
  obtain ⟨w8, h7, h⟩ := rBind h
  refine rv_callVv (k3 := 0) (n3 := 0) (st2 := []) caX10_lists cvX10_lists ml_X10_101 dX10_again_22 rfl (E_X10_lists h7).2 (E_X10_lists h7).1 rfl rfl rfl rfl rfl ?_
  clear h7
  refine rv_aload_n 0 dX10_again_25 rfl ?_
  refine rv_aload_n 1 dX10_again_26 rfl ?_
  refine rv_iconst (v := 3) dX10_again_27 (by decide) ?_
  refine rv_iaload dX10_again_28 h (fun v9 h => ?_)
  refine rv_putI ff_X10_333 (fp_X10_11 _) dX10_again_29 h (fun w10 h => ?_)
  refine rv_aload_n 0 dX10_again_32 rfl ?_
  refine rv_aload_n 1 dX10_again_33 rfl ?_
  refine rv_iconst (v := 4) dX10_again_34 (by decide) ?_
  refine rv_iaload dX10_again_35 h (fun v11 h => ?_)
  refine rv_putI ff_X10_349 (fp_X10_14 _) dX10_again_36 h (fun w12 h => ?_)
  refine rv_aload_n 0 dX10_again_39 rfl ?_
  refine rv_aload_n 1 dX10_again_40 rfl ?_
  refine rv_iconst (v := 5) dX10_again_41 (by decide) ?_
  refine rv_iaload dX10_again_42 h (fun v13 h => ?_)
  refine rv_putI ff_X10_363 (fp_X10_17 _) dX10_again_43 h (fun w14 h => ?_)
  refine rv_iconst (v := 0) dX10_again_46 (by decide) ?_
  refine rv_istore_n (l2 := [(2, .int 0), (0, .ref x0), (1, .ref x1)]) dX10_again_47 rfl rfl ?_
  obtain ⟨K83, eK83, h⟩ := rLetE h
  have hK83 : ∀ (w : rW), K83 w = some w0 → rEv mX10_again 3 0 0 83 [(0, .ref x0), (1, .ref x1)] [] w (rIs none w0) := by
    intro w15 h
    rw [eK83] at h
    refine rv_iconst (v := 0) dX10_again_83 (by decide) ?_
    refine rv_istore_n (l2 := [(2, .int 0), (0, .ref x0), (1, .ref x1)]) dX10_again_84 rfl rfl ?_
    obtain ⟨K145, eK145, h⟩ := rLetE h
    have hK145 : ∀ (w : rW), K145 w = some w0 → rEv mX10_again 3 0 0 145 [(0, .ref x0), (1, .ref x1)] [] w (rIs none w0) := by
      intro w16 h
      rw [eK145] at h
      refine rv_iconst (v := 0) dX10_again_145 (by decide) ?_
      refine rv_istore_n (l2 := [(2, .int 0), (0, .ref x0), (1, .ref x1)]) dX10_again_146 rfl rfl ?_
      exact rv_sub [1, 2, 0] rfl (E_X10_again_147 x0 x1 2000 0 w16 h)
    clear eK145
    exact rv_sub [1, 2, 0] rfl (E_X10_again_85 x0 x1 hK145 2000 0 w15 h)
  clear eK83
  exact rv_sub [1, 2, 0] rfl (E_X10_again_48 x0 x1 hK83 2000 0 w14 h)
set_option maxRecDepth 20000 in
theorem E_X10_after_24 {r0 : Int32} {w0 : rW}  (x0 : Nat) (x1 : Int32)  {K54 : rW → Option (Int32 × rW)} (hK54 : ∀ (w : rW), K54 w = some (r0, w0) → rEv mX10_after 5 0 0 54 [(0, .ref x0), (1, .int x1)] [] w (rIs (some (.int r0)) w0)) : ∀ (f : Nat) (x2 : Int32) (w : rW), J_X10_after_24 x0 K54 f x2 w = some (r0, w0) → rEv mX10_after 5 0 0 24 [(0, .ref x0), (1, .int x1), (2, .int x2)] [] w (rIs (some (.int r0)) w0) := by
  intro f
  induction f with
  | zero =>
    intro x2 w h
    exact absurd (show (none : Option (Int32 × rW)) = some (r0, w0) from h) (by simp)
  | succ f ih =>
    intro x2 w h
    rw [J_X10_after_24] at h
    refine rv_iload_n 2 dX10_after_24 rfl ?_
    refine rv_aload_n 0 dX10_after_25 rfl ?_
    refine rv_getI ff_X10_349 dX10_after_26 h (fun v20 h => ?_)
    refine rv_icmp_ge 54 dX10_after_29 (by decide) (fun c21 => ?_) (fun c21 => ?_)
    · replace h := rIfT h c21
      exact rv_sub [0, 1] rfl (hK54 w h)
    · replace h := rIfF h c21
      refine rv_aload_n 0 dX10_after_32 rfl ?_
      refine rv_aload_n 0 dX10_after_33 rfl ?_
      refine rv_getR ff_X10_43 dX10_after_34 h (fun a22 h => ?_)
      refine rv_iload_n 2 dX10_after_37 rfl ?_
      refine rv_iaload dX10_after_38 h (fun v23 h => ?_)
      refine rv_aload_n 0 dX10_after_39 rfl ?_
      refine rv_getR ff_X10_46 dX10_after_40 h (fun a24 h => ?_)
      refine rv_iload_n 2 dX10_after_43 rfl ?_
      refine rv_iaload dX10_after_44 h (fun v25 h => ?_)
      obtain ⟨w27, h26, h⟩ := rBind h
      refine rv_callVv (k3 := 0) (n3 := 0) (st2 := []) caX10_happens cvX10_happens ml_X10_356 dX10_after_45 rfl (E_X10_happens h26).2 (E_X10_happens h26).1 rfl rfl rfl rfl rfl ?_
      clear h26
      obtain ⟨v28, ev28, h⟩ := rLetE h
      refine rv_iinc (v := v28) (l2 := [(2, .int v28), (0, .ref x0), (1, .int x1)]) 2 dX10_after_48 rfl (by rw [ev28]; rfl) rfl rfl ?_
      clear ev28
      refine rv_goto 24 dX10_after_51 (by decide) ?_
      exact rv_sub [1, 2, 0] rfl (ih v28 w27 h)
set_option maxRecDepth 20000 in
theorem E_X10_after {x0 : Nat} {x1 : Int32} {r0 : Int32} {w0 : rW} {w : rW} (h : J_X10_after x0 x1 w = some (r0, w0)) : (∃ fs, w[x0]? = some (cO 10 fs)) ∧ rMet mX10_after 5 0 0 [.ref x0, .int x1] w (rIs (some (.int r0)) w0) := by
  unfold J_X10_after at h
  obtain ⟨hrc, h⟩ := rRc_some h
  refine ⟨hrc, ?_⟩
  refine rMet_of (by decide) rfl ?_
  refine rv_iload_n 1 dX10_after_0 rfl ?_
  refine rv_i2l dX10_after_1 ?_
  refine rv_lconst (v := 0) dX10_after_2 (by decide) ?_
  refine rv_ldc2 dX10_after_3 kl_X10_124 ?_
  obtain ⟨b2, h1, h⟩ := rBind h
  refine rv_callSr (k3 := 0) (n3 := 0) (st2 := []) (As := [.long (Int32.toInt64 x1), .long 0, .long 2]) caX10_in csX10_in ml_X10_116 dX10_after_6 rfl (E_X10_in h1) rfl rfl rfl rfl rfl ?_
  clear h1
  refine rv_if_ne 14 dX10_after_9 (by decide) (fun c3 => ?_) (fun c3 => ?_)
  · replace h := rIfF h c3
    refine rv_aload_n 0 dX10_after_14 rfl ?_
    refine rv_aload_n 0 dX10_after_15 rfl ?_
    refine rv_getR ff_X10_77 dX10_after_16 h (fun a4 h => ?_)
    obtain ⟨w6, h5, h⟩ := rBind h
    refine rv_callVv (k3 := 0) (n3 := 0) (st2 := []) caX10_keepTo cvX10_keepTo ml_X10_352 dX10_after_19 rfl (E_X10_keepTo h5).2 (E_X10_keepTo h5).1 rfl rfl rfl rfl rfl ?_
    clear h5
    refine rv_iconst (v := 0) dX10_after_22 (by decide) ?_
    refine rv_istore_n (l2 := [(2, .int 0), (0, .ref x0), (1, .int x1)]) dX10_after_23 rfl rfl ?_
    obtain ⟨K54, eK54, h⟩ := rLetE h
    have hK54 : ∀ (w : rW), K54 w = some (r0, w0) → rEv mX10_after 5 0 0 54 [(0, .ref x0), (1, .int x1)] [] w (rIs (some (.int r0)) w0) := by
      intro w7 h
      rw [eK54] at h
      refine rv_iload_n 1 dX10_after_54 rfl ?_
      obtain ⟨K81, eK81, h⟩ := rLetE h
      have hK81 : ∀ (z0 : Int32), K81 z0 = some (r0, w0) → rEv mX10_after 5 0 0 81 [(0, .ref x0)] [.int z0] w7 (rIs (some (.int r0)) w0) := by
        intro z8 h
        rw [eK81] at h
        refine rv_istore_n (l2 := [(2, .int z8), (0, .ref x0)]) dX10_after_81 rfl rfl ?_
        refine rv_aload_n 1 dX10_after_82 rfl ?_
        refine rv_aload_n 1 dX10_after_83 rfl ?_
        refine rv_getR ff_X10_77 dX10_after_84 h (fun a9 h => ?_)
        obtain ⟨w11, h10, h⟩ := rBind h
        refine rv_callVv (k3 := 0) (n3 := 0) (st2 := []) caX10_again cvX10_again ml_X10_360 dX10_after_87 rfl (E_X10_again h10).2 (E_X10_again h10).1 rfl rfl rfl rfl rfl ?_
        clear h10
        refine rv_iload_n 0 dX10_after_90 rfl ?_
        exact rv_iret .int dX10_after_91 rfl rfl (rRetIw h)
      clear eK81
      refine rv_if_ne 65 dX10_after_55 (by decide) (fun c12 => ?_) (fun c12 => ?_)
      · replace h := rIfF h c12
        refine rv_iload_n 1 dX10_after_65 rfl ?_
        refine rv_iconst (v := 1) dX10_after_66 (by decide) ?_
        refine rv_icmp_ne 77 dX10_after_67 (by decide) (fun c13 => ?_) (fun c13 => ?_)
        · replace h := rIfF h c13
          refine rv_aload_n 0 dX10_after_77 rfl ?_
          obtain ⟨v15, h14, h⟩ := rBind h
          refine rv_callVr (k3 := 0) (n3 := 0) (st2 := []) caX10_index cvX10_index ml_X10_281 dX10_after_78 rfl (E_X10_index h14).2 (E_X10_index h14).1 rfl rfl rfl rfl rfl ?_
          clear h14
          exact rv_sub [0] rfl (hK81 v15 h)
        · replace h := rIfT h c13
          refine rv_aload_n 0 dX10_after_70 rfl ?_
          obtain ⟨v17, h16, h⟩ := rBind h
          refine rv_callVr (k3 := 0) (n3 := 0) (st2 := []) caX10_inDesign cvX10_inDesign ml_X10_188 dX10_after_71 rfl (E_X10_inDesign h16).2 (E_X10_inDesign h16).1 rfl rfl rfl rfl rfl ?_
          clear h16
          refine rv_goto 81 dX10_after_74 (by decide) ?_
          exact rv_sub [0] rfl (hK81 v17 h)
      · replace h := rIfT h c12
        refine rv_aload_n 0 dX10_after_58 rfl ?_
        obtain ⟨v19, h18, h⟩ := rBind h
        refine rv_callVr (k3 := 0) (n3 := 0) (st2 := []) caX10_volume cvX10_volume ml_X10_167 dX10_after_59 rfl (E_X10_volume h18).2 (E_X10_volume h18).1 rfl rfl rfl rfl rfl ?_
        clear h18
        refine rv_goto 81 dX10_after_62 (by decide) ?_
        exact rv_sub [0] rfl (hK81 v19 h)
    clear eK54
    exact rv_sub [1, 2, 0] rfl (E_X10_after_24 x0 x1 hK54 2000 0 w6 h)
  · replace h := rIfT h c3
    refine rv_iconst (v := (-1)) dX10_after_12 (by decide) ?_
    exact rv_iret .int dX10_after_13 rfl rfl (rRetIw h)
set_option maxRecDepth 20000 in
theorem E_X10_book {x0 : Nat} {x1 : Int32} {x2 : Int32} {r0 : Int32} {w0 : rW} {w : rW} (h : J_X10_book x0 x1 x2 w = some (r0, w0)) : (∃ fs, w[x0]? = some (cO 10 fs)) ∧ rMet mX10_book 2 0 0 [.ref x0, .int x1, .int x2] w (rIs (some (.int r0)) w0) := by
  unfold J_X10_book at h
  obtain ⟨hrc, h⟩ := rRc_some h
  refine ⟨hrc, ?_⟩
  refine rMet_of (by decide) rfl ?_
  refine rv_iload_n 1 dX10_book_0 rfl ?_
  refine rv_iconst (v := (-1)) dX10_book_1 (by decide) ?_
  refine rv_icmp_ne 12 dX10_book_2 (by decide) (fun c1 => ?_) (fun c1 => ?_)
  · replace h := rIfF h c1
    refine rv_aload_n 0 dX10_book_12 rfl ?_
    refine rv_iload_n 1 dX10_book_13 rfl ?_
    obtain ⟨b3, h2, h⟩ := rBind h
    refine rv_callVr (k3 := 0) (n3 := 0) (st2 := []) caX10_isBlock cvX10_isBlock ml_X10_140 dX10_book_14 rfl (E_X10_isBlock h2).2 (E_X10_isBlock h2).1 rfl rfl rfl rfl rfl ?_
    clear h2
    refine rv_if_ne 22 dX10_book_17 (by decide) (fun c4 => ?_) (fun c4 => ?_)
    · replace h := rIfF h c4
      refine rv_iload_n 2 dX10_book_22 rfl ?_
      refine rv_i2l dX10_book_23 ?_
      refine rv_ldc2 dX10_book_24 kl_X10_144 ?_
      refine rv_ldc2 dX10_book_27 kl_X10_146 ?_
      obtain ⟨b6, h5, h⟩ := rBind h
      refine rv_callSr (k3 := 0) (n3 := 0) (st2 := []) (As := [.long (Int32.toInt64 x2), .long (-99), .long 99]) caX10_in csX10_in ml_X10_116 dX10_book_30 rfl (E_X10_in h5) rfl rfl rfl rfl rfl ?_
      clear h5
      refine rv_if_ne 39 dX10_book_33 (by decide) (fun c7 => ?_) (fun c7 => ?_)
      · replace h := rIfF h c7
        refine rv_aload_n 0 dX10_book_39 rfl ?_
        refine rv_getI ff_X10_363 dX10_book_40 h (fun v8 h => ?_)
        refine rv_bipush (v := 8) dX10_book_43 (by decide) ?_
        refine rv_icmp_ne 51 dX10_book_45 (by decide) (fun c9 => ?_) (fun c9 => ?_)
        · replace h := rIfF h c9
          refine rv_aload_n 0 dX10_book_51 rfl ?_
          refine rv_getR ff_X10_49 dX10_book_52 h (fun a10 h => ?_)
          refine rv_aload_n 0 dX10_book_55 rfl ?_
          refine rv_getI ff_X10_363 dX10_book_56 h (fun v11 h => ?_)
          refine rv_iload_n 1 dX10_book_59 rfl ?_
          refine rv_iastore dX10_book_60 h (fun w12 h => ?_)
          refine rv_aload_n 0 dX10_book_61 rfl ?_
          refine rv_getR ff_X10_52 dX10_book_62 h (fun a13 h => ?_)
          refine rv_aload_n 0 dX10_book_65 rfl ?_
          refine rv_getI ff_X10_363 dX10_book_66 h (fun v14 h => ?_)
          refine rv_iload_n 2 dX10_book_69 rfl ?_
          refine rv_iastore dX10_book_70 h (fun w15 h => ?_)
          refine rv_aload_n 0 dX10_book_71 rfl ?_
          refine rv_dup dX10_book_72 rfl ?_
          refine rv_getI ff_X10_363 dX10_book_73 h (fun v16 h => ?_)
          refine rv_iconst (v := 1) dX10_book_76 (by decide) ?_
          refine rv_iadd dX10_book_77 ?_
          refine rv_putI ff_X10_363 (fp_X10_17 _) dX10_book_78 h (fun w17 h => ?_)
          refine rv_aload_n 0 dX10_book_81 rfl ?_
          refine rv_getI ff_X10_363 dX10_book_82 h (fun v18 h => ?_)
          exact rv_iret .int dX10_book_85 rfl rfl (rRetIw h)
        · replace h := rIfT h c9
          refine rv_bipush (v := (-4)) dX10_book_48 (by decide) ?_
          exact rv_iret .int dX10_book_50 rfl rfl (rRetIw h)
      · replace h := rIfT h c7
        refine rv_bipush (v := (-2)) dX10_book_36 (by decide) ?_
        exact rv_iret .int dX10_book_38 rfl rfl (rRetIw h)
    · replace h := rIfT h c4
      refine rv_iconst (v := (-1)) dX10_book_20 (by decide) ?_
      exact rv_iret .int dX10_book_21 rfl rfl (rRetIw h)
  · replace h := rIfT h c1
    refine rv_aload_n 0 dX10_book_5 rfl ?_
    refine rv_iconst (v := 0) dX10_book_6 (by decide) ?_
    refine rv_putI ff_X10_363 (fp_X10_17 _) dX10_book_7 h (fun w19 h => ?_)
    refine rv_iconst (v := 0) dX10_book_10 (by decide) ?_
    exact rv_iret .int dX10_book_11 rfl rfl (rRetIw h)
set_option maxRecDepth 20000 in
theorem E_X10_looked_2 {r0 : Int32}  (x0 : Nat) (w : rW)   : ∀ (f : Nat) (x1 : Int32), J_X10_looked_2 x0 w f x1 = some r0 → rEv mX10_looked 2 0 0 2 [(0, .ref x0), (1, .int x1)] [] w (rIs (some (.int r0)) w) := by
  intro f
  induction f with
  | zero =>
    intro x1 h
    exact absurd (show (none : Option Int32) = some r0 from h) (by simp)
  | succ f ih =>
    intro x1 h
    rw [J_X10_looked_2] at h
    refine rv_iload_n 1 dX10_looked_2 rfl ?_
    refine rv_aload_n 0 dX10_looked_3 rfl ?_
    refine rv_getI ff_X10_363 dX10_looked_4 h (fun v1 h => ?_)
    refine rv_icmp_ge 51 dX10_looked_7 (by decide) (fun c2 => ?_) (fun c2 => ?_)
    · replace h := rIfT h c2
      refine rv_bipush (v := (-5)) dX10_looked_51 (by decide) ?_
      exact rv_iret .int dX10_looked_53 rfl rfl (rRetIp h)
    · replace h := rIfF h c2
      refine rv_aload_n 0 dX10_looked_10 rfl ?_
      refine rv_aload_n 0 dX10_looked_11 rfl ?_
      refine rv_getR ff_X10_49 dX10_looked_12 h (fun a3 h => ?_)
      refine rv_iload_n 1 dX10_looked_15 rfl ?_
      refine rv_iaload dX10_looked_16 h (fun v4 h => ?_)
      obtain ⟨b6, h5, h⟩ := rBind h
      refine rv_callVr (k3 := 0) (n3 := 0) (st2 := []) caX10_isBlock cvX10_isBlock ml_X10_140 dX10_looked_17 rfl (E_X10_isBlock h5).2 (E_X10_isBlock h5).1 rfl rfl rfl rfl rfl ?_
      clear h5
      refine rv_if_eq 43 dX10_looked_20 (by decide) (fun c7 => ?_) (fun c7 => ?_)
      · replace h := rIfT h c7
        refine rv_iload_n 1 dX10_looked_43 rfl ?_
        exact rv_iret .int dX10_looked_44 rfl rfl (rRetIp h)
      · replace h := rIfF h c7
        refine rv_aload_n 0 dX10_looked_23 rfl ?_
        refine rv_getR ff_X10_28 dX10_looked_24 h (fun a8 h => ?_)
        refine rv_aload_n 0 dX10_looked_27 rfl ?_
        refine rv_getR ff_X10_49 dX10_looked_28 h (fun a9 h => ?_)
        refine rv_iload_n 1 dX10_looked_31 rfl ?_
        refine rv_iaload dX10_looked_32 h (fun v10 h => ?_)
        refine rv_iaload dX10_looked_33 h (fun v11 h => ?_)
        refine rv_aload_n 0 dX10_looked_34 rfl ?_
        refine rv_getR ff_X10_52 dX10_looked_35 h (fun a12 h => ?_)
        refine rv_iload_n 1 dX10_looked_38 rfl ?_
        refine rv_iaload dX10_looked_39 h (fun v13 h => ?_)
        refine rv_icmp_eq 45 dX10_looked_40 (by decide) (fun c14 => ?_) (fun c14 => ?_)
        · replace h := rIfT h c14
          obtain ⟨v15, ev15, h⟩ := rLetE h
          refine rv_iinc (v := v15) (l2 := [(1, .int v15), (0, .ref x0)]) 1 dX10_looked_45 rfl (by rw [ev15]; rfl) rfl rfl ?_
          clear ev15
          refine rv_goto 2 dX10_looked_48 (by decide) ?_
          exact rv_sub [1, 0] rfl (ih v15 h)
        · replace h := rIfF h c14
          refine rv_iload_n 1 dX10_looked_43 rfl ?_
          exact rv_iret .int dX10_looked_44 rfl rfl (rRetIp h)
set_option maxRecDepth 20000 in
theorem E_X10_looked {x0 : Nat} {r0 : Int32} {w : rW} (h : J_X10_looked x0 w = some r0) : (∃ fs, w[x0]? = some (cO 10 fs)) ∧ rMet mX10_looked 2 0 0 [.ref x0] w (rIs (some (.int r0)) w) := by
  unfold J_X10_looked at h
  obtain ⟨hrc, h⟩ := rRc_some h
  refine ⟨hrc, ?_⟩
  refine rMet_of (by decide) rfl ?_
  refine rv_iconst (v := 0) dX10_looked_0 (by decide) ?_
  refine rv_istore_n (l2 := [(1, .int 0), (0, .ref x0)]) dX10_looked_1 rfl rfl ?_
  exact rv_sub [1, 0] rfl (E_X10_looked_2 x0 w 2000 0 h)
set_option maxRecDepth 20000 in
theorem E_X10_judge_28 {r0 : Int32}  (x0 : Nat) (x1 : Int32) (x2 : Int32) (w : rW)  {K65 : Int32 → Option Int32} (hK65 : ∀ (y3 : Int32), K65 y3 = some r0 → rEv mX10_judge 1 0 0 65 [(3, .int y3)] [] w (rIs (some (.int r0)) w)) : ∀ (f : Nat) (x3 : Int32), J_X10_judge_28 x0 x1 x2 w K65 f x3 = some r0 → rEv mX10_judge 1 0 0 28 [(0, .ref x0), (1, .int x1), (2, .int x2), (3, .int x3)] [] w (rIs (some (.int r0)) w) := by
  intro f
  induction f with
  | zero =>
    intro x3 h
    exact absurd (show (none : Option Int32) = some r0 from h) (by simp)
  | succ f ih =>
    intro x3 h
    rw [J_X10_judge_28] at h
    refine rv_iload_n 3 dX10_judge_28 rfl ?_
    refine rv_aload_n 0 dX10_judge_29 rfl ?_
    refine rv_getI ff_X10_110 dX10_judge_30 h (fun v8 h => ?_)
    refine rv_icmp_ge 102 dX10_judge_33 (by decide) (fun c9 => ?_) (fun c9 => ?_)
    · replace h := rIfT h c9
      refine rv_bipush (v := (-5)) dX10_judge_102 (by decide) ?_
      exact rv_iret .int dX10_judge_104 rfl rfl (rRetIp h)
    · replace h := rIfF h c9
      refine rv_aload_n 0 dX10_judge_36 rfl ?_
      refine rv_getR ff_X10_68 dX10_judge_37 h (fun a10 h => ?_)
      refine rv_iload_n 1 dX10_judge_40 rfl ?_
      refine rv_iaload dX10_judge_41 h (fun v11 h => ?_)
      refine rv_if_lt 65 dX10_judge_42 (by decide) (fun c12 => ?_) (fun c12 => ?_)
      · replace h := rIfT h c12
        exact rv_sub [3] rfl (hK65 x3 h)
      · replace h := rIfF h c12
        refine rv_iload_n 2 dX10_judge_45 rfl ?_
        refine rv_if_lt 65 dX10_judge_46 (by decide) (fun c13 => ?_) (fun c13 => ?_)
        · replace h := rIfT h c13
          exact rv_sub [3] rfl (hK65 x3 h)
        · replace h := rIfF h c13
          refine rv_iload_n 2 dX10_judge_49 rfl ?_
          refine rv_i2l dX10_judge_50 ?_
          refine rv_iload_n 3 dX10_judge_51 rfl ?_
          refine rv_i2l dX10_judge_52 ?_
          refine rv_ladd dX10_judge_53 ?_
          refine rv_aload_n 0 dX10_judge_54 rfl ?_
          refine rv_getR ff_X10_71 dX10_judge_55 h (fun a14 h => ?_)
          refine rv_iload_n 1 dX10_judge_58 rfl ?_
          refine rv_iaload dX10_judge_59 h (fun v15 h => ?_)
          refine rv_i2l dX10_judge_60 ?_
          refine rv_lcmp dX10_judge_61 ?_
          refine rv_if_lt 70 dX10_judge_62 (by decide) (fun c16 => ?_) (fun c16 => ?_)
          · replace h := rIfT h c16
            refine rv_aload_n 0 dX10_judge_70 rfl ?_
            refine rv_getR ff_X10_64 dX10_judge_71 h (fun a17 h => ?_)
            refine rv_bipush (v := 60) dX10_judge_74 (by decide) ?_
            refine rv_iload_n 1 dX10_judge_76 rfl ?_
            refine rv_imul dX10_judge_77 ?_
            refine rv_iload_n 2 dX10_judge_78 rfl ?_
            refine rv_iadd dX10_judge_79 ?_
            refine rv_iload_n 3 dX10_judge_80 rfl ?_
            refine rv_iadd dX10_judge_81 ?_
            refine rv_laload dX10_judge_82 h (fun v18 h => ?_)
            refine rv_aload_n 0 dX10_judge_83 rfl ?_
            refine rv_getR ff_X10_28 dX10_judge_84 h (fun a19 h => ?_)
            refine rv_iload_n 3 dX10_judge_87 rfl ?_
            refine rv_iaload dX10_judge_88 h (fun v20 h => ?_)
            refine rv_i2l dX10_judge_89 ?_
            refine rv_lcmp dX10_judge_90 ?_
            refine rv_if_eq 96 dX10_judge_91 (by decide) (fun c21 => ?_) (fun c21 => ?_)
            · replace h := rIfT h c21
              obtain ⟨v22, ev22, h⟩ := rLetE h
              refine rv_iinc (v := v22) (l2 := [(3, .int v22), (0, .ref x0), (1, .int x1), (2, .int x2)]) 3 dX10_judge_96 rfl (by rw [ev22]; rfl) rfl rfl ?_
              clear ev22
              refine rv_goto 28 dX10_judge_99 (by decide) ?_
              exact rv_sub [1, 2, 3, 0] rfl (ih v22 h)
            · replace h := rIfF h c21
              refine rv_iload_n 3 dX10_judge_94 rfl ?_
              exact rv_iret .int dX10_judge_95 rfl rfl (rRetIp h)
          · replace h := rIfF h c16
            exact rv_sub [3] rfl (hK65 x3 h)
set_option maxRecDepth 20000 in
theorem E_X10_judge {x0 : Nat} {x1 : Int32} {x2 : Int32} {r0 : Int32} {w : rW} (h : J_X10_judge x0 x1 x2 w = some r0) : (∃ fs, w[x0]? = some (cO 10 fs)) ∧ rMet mX10_judge 1 0 0 [.ref x0, .int x1, .int x2] w (rIs (some (.int r0)) w) := by
  unfold J_X10_judge at h
  obtain ⟨hrc, h⟩ := rRc_some h
  refine ⟨hrc, ?_⟩
  refine rMet_of (by decide) rfl ?_
  refine rv_iload_n 1 dX10_judge_0 rfl ?_
  refine rv_i2l dX10_judge_1 ?_
  refine rv_lconst (v := 0) dX10_judge_2 (by decide) ?_
  refine rv_ldc2 dX10_judge_3 kl_X10_366 ?_
  obtain ⟨b2, h1, h⟩ := rBind h
  refine rv_callSr (k3 := 0) (n3 := 0) (st2 := []) (As := [.long (Int32.toInt64 x1), .long 0, .long 5]) caX10_in csX10_in ml_X10_116 dX10_judge_6 rfl (E_X10_in h1) rfl rfl rfl rfl rfl ?_
  clear h1
  refine rv_if_ne 14 dX10_judge_9 (by decide) (fun c3 => ?_) (fun c3 => ?_)
  · replace h := rIfF h c3
    refine rv_aload_n 0 dX10_judge_14 rfl ?_
    refine rv_getR ff_X10_68 dX10_judge_15 h (fun a4 h => ?_)
    refine rv_iload_n 1 dX10_judge_18 rfl ?_
    refine rv_iaload dX10_judge_19 h (fun v5 h => ?_)
    refine rv_if_le 26 dX10_judge_20 (by decide) (fun c6 => ?_) (fun c6 => ?_)
    · replace h := rIfT h c6
      refine rv_iconst (v := 0) dX10_judge_26 (by decide) ?_
      refine rv_istore_n (l2 := [(3, .int 0), (0, .ref x0), (1, .int x1), (2, .int x2)]) dX10_judge_27 rfl rfl ?_
      obtain ⟨K65, eK65, h⟩ := rLetE h
      have hK65 : ∀ (y3 : Int32), K65 y3 = some r0 → rEv mX10_judge 1 0 0 65 [(3, .int y3)] [] w (rIs (some (.int r0)) w) := by
        intro x3_7 h
        rw [eK65] at h
        refine rv_bipush (v := 100) dX10_judge_65 (by decide) ?_
        refine rv_iload_n 0 dX10_judge_67 rfl ?_
        refine rv_iadd dX10_judge_68 ?_
        exact rv_iret .int dX10_judge_69 rfl rfl (rRetIp h)
      clear eK65
      exact rv_sub [1, 2, 3, 0] rfl (E_X10_judge_28 x0 x1 x2 w hK65 2000 0 h)
    · replace h := rIfF h c6
      refine rv_bipush (v := (-12)) dX10_judge_23 (by decide) ?_
      exact rv_iret .int dX10_judge_25 rfl rfl (rRetIp h)
  · replace h := rIfT h c3
    refine rv_iconst (v := (-1)) dX10_judge_12 (by decide) ?_
    exact rv_iret .int dX10_judge_13 rfl rfl (rRetIp h)
set_option maxRecDepth 20000 in
theorem E_X10_image {x0 : Nat} {r0 : Int32} {w0 : rW} {w : rW} (h : J_X10_image x0 w = some (r0, w0)) : (∃ fs, w[x0]? = some (cO 10 fs)) ∧ rMet mX10_image 1 0 0 [.ref x0] w (rIs (some (.int r0)) w0) := by
  unfold J_X10_image at h
  obtain ⟨hrc, h⟩ := rRc_some h
  refine ⟨hrc, ?_⟩
  refine rMet_of (by decide) rfl ?_
  refine rv_aload_n 0 dX10_image_0 rfl ?_
  refine rv_aload_n 0 dX10_image_1 rfl ?_
  refine rv_getR ff_X10_74 dX10_image_2 h (fun a1 h => ?_)
  obtain ⟨w3, h2, h⟩ := rBind h
  refine rv_callVv (k3 := 0) (n3 := 0) (st2 := []) caX10_keepTo cvX10_keepTo ml_X10_352 dX10_image_5 rfl (E_X10_keepTo h2).2 (E_X10_keepTo h2).1 rfl rfl rfl rfl rfl ?_
  clear h2
  refine rv_aload_n 0 dX10_image_8 rfl ?_
  refine rv_iconst (v := 1) dX10_image_9 (by decide) ?_
  refine rv_putZ ff_X10_368 (fp_X10_29 _) dX10_image_10 (by decide) (by decide) h (fun w4 h => ?_)
  refine rv_aload_n 0 dX10_image_13 rfl ?_
  obtain ⟨v6, h5, h⟩ := rBind h
  refine rv_callVr (k3 := 0) (n3 := 0) (st2 := []) caX10_inDesign cvX10_inDesign ml_X10_188 dX10_image_14 rfl (E_X10_inDesign h5).2 (E_X10_inDesign h5).1 rfl rfl rfl rfl rfl ?_
  clear h5
  exact rv_iret .int dX10_image_17 rfl rfl (rRetIw h)
set_option maxRecDepth 20000 in
theorem E_X10_undo {x0 : Nat} {r0 : Int32} {w0 : rW} {w : rW} (h : J_X10_undo x0 w = some (r0, w0)) : (∃ fs, w[x0]? = some (cO 10 fs)) ∧ rMet mX10_undo 4 0 0 [.ref x0] w (rIs (some (.int r0)) w0) := by
  unfold J_X10_undo at h
  obtain ⟨hrc, h⟩ := rRc_some h
  refine ⟨hrc, ?_⟩
  refine rMet_of (by decide) rfl ?_
  refine rv_aload_n 0 dX10_undo_0 rfl ?_
  refine rv_getI ff_X10_368 dX10_undo_1 h (fun v1 h => ?_)
  refine rv_if_ne 10 dX10_undo_4 (by decide) (fun c2 => ?_) (fun c2 => ?_)
  · replace h := rIfF h c2
    refine rv_aload_n 0 dX10_undo_10 rfl ?_
    refine rv_aload_n 0 dX10_undo_11 rfl ?_
    refine rv_getR ff_X10_74 dX10_undo_12 h (fun a3 h => ?_)
    obtain ⟨w5, h4, h⟩ := rBind h
    refine rv_callVv (k3 := 0) (n3 := 0) (st2 := []) caX10_again cvX10_again ml_X10_360 dX10_undo_15 rfl (E_X10_again h4).2 (E_X10_again h4).1 rfl rfl rfl rfl rfl ?_
    clear h4
    refine rv_aload_n 0 dX10_undo_18 rfl ?_
    obtain ⟨v7, h6, h⟩ := rBind h
    refine rv_callVr (k3 := 0) (n3 := 0) (st2 := []) caX10_inDesign cvX10_inDesign ml_X10_188 dX10_undo_19 rfl (E_X10_inDesign h6).2 (E_X10_inDesign h6).1 rfl rfl rfl rfl rfl ?_
    clear h6
    exact rv_iret .int dX10_undo_22 rfl rfl (rRetIw h)
  · replace h := rIfT h c2
    refine rv_bipush (v := (-3)) dX10_undo_7 (by decide) ?_
    exact rv_iret .int dX10_undo_9 rfl rfl (rRetIw h)
set_option maxRecDepth 20000 in
theorem E_X10_counted {x0 : Nat} {x1 : Int32} {r0 : Int32} {w : rW} (h : J_X10_counted x0 x1 w = some r0) : (∃ fs, w[x0]? = some (cO 10 fs)) ∧ rMet mX10_counted 0 0 0 [.ref x0, .int x1] w (rIs (some (.int r0)) w) := by
  unfold J_X10_counted at h
  obtain ⟨hrc, h⟩ := rRc_some h
  refine ⟨hrc, ?_⟩
  refine rMet_of (by decide) rfl ?_
  refine rv_iload_n 1 dX10_counted_0 rfl ?_
  refine rIf h (fun c1 h => ?_) (fun c1 h => ?_)
  · refine rv_tswIn 32 dX10_counted_1 c1 (by decide) (by decide) rfl (by decide) ?_
    refine rv_aload_n 0 dX10_counted_32 rfl ?_
    refine rv_getI ff_X10_333 dX10_counted_33 h (fun v2 h => ?_)
    exact rv_iret .int dX10_counted_36 rfl rfl (rRetIp h)
  refine rIf h (fun c3 h => ?_) (fun c3 h => ?_)
  · refine rv_tswIn 37 dX10_counted_1 c3 (by decide) (by decide) rfl (by decide) ?_
    refine rv_aload_n 0 dX10_counted_37 rfl ?_
    refine rv_getI ff_X10_349 dX10_counted_38 h (fun v4 h => ?_)
    exact rv_iret .int dX10_counted_41 rfl rfl (rRetIp h)
  refine rIf h (fun c5 h => ?_) (fun c5 h => ?_)
  · refine rv_tswIn 42 dX10_counted_1 c5 (by decide) (by decide) rfl (by decide) ?_
    refine rv_aload_n 0 dX10_counted_42 rfl ?_
    refine rv_getI ff_X10_363 dX10_counted_43 h (fun v6 h => ?_)
    exact rv_iret .int dX10_counted_46 rfl rfl (rRetIp h)
  refine rIf h (fun c7 h => ?_) (fun c7 h => ?_)
  · refine rv_tswIn 47 dX10_counted_1 c7 (by decide) (by decide) rfl (by decide) ?_
    refine rv_aload_n 0 dX10_counted_47 rfl ?_
    refine rv_getI ff_X10_197 dX10_counted_48 h (fun v8 h => ?_)
    exact rv_iret .int dX10_counted_51 rfl rfl (rRetIp h)
  refine rv_tswOut 52 [0, 1, 2, 3] dX10_counted_1 (by decide) (by decide) (by decide) (fun v hv => ?_) ?_
  · simp only [List.mem_cons, List.not_mem_nil, or_false] at hv
    rcases hv with rfl | rfl | rfl | rfl
    · exact c1
    · exact c3
    · exact c5
    · exact c7
  refine rv_bipush (v := (-2)) dX10_counted_52 (by decide) ?_
  exact rv_iret .int dX10_counted_54 rfl rfl (rRetIp h)
set_option maxRecDepth 20000 in
theorem E_X10_isTape {x0 : Int32} {r0 : Bool} {w : rW} (h : J_X10_isTape x0 w = some r0) : rMet mX10_isTape 1 0 0 [.int x0] w (rIs (some (.int (bi r0))) w) := by
  unfold J_X10_isTape at h
  refine rMet_of (by decide) rfl ?_
  refine rv_iload_n 0 dX10_isTape_0 rfl ?_
  refine rv_i2l dX10_isTape_1 ?_
  refine rv_lconst (v := 0) dX10_isTape_2 (by decide) ?_
  refine rv_ldc2 dX10_isTape_3 kl_X10_366 ?_
  obtain ⟨b2, h1, h⟩ := rBind h
  refine rv_callSr (k3 := 0) (n3 := 0) (st2 := []) (As := [.long (Int32.toInt64 x0), .long 0, .long 5]) caX10_in csX10_in ml_X10_116 dX10_isTape_6 rfl (E_X10_in h1) rfl rfl rfl rfl rfl ?_
  clear h1
  exact rv_iret .boolean dX10_isTape_9 rfl (nbi _) (rRetZp h rfl)

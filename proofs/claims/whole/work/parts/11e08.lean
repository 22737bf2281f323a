set_option maxRecDepth 20000 in
theorem E_X10_maySwap_20 {r0 : Bool}  (x0 : Nat) (w : rW)   : ∀ (f : Nat) (x1 : Int32) (x2 : Int32), J_X10_maySwap_20 x0 w f x1 x2 = some r0 → rEv mX10_maySwap 3 0 0 20 [(0, .ref x0), (1, .int x1), (2, .int x2)] [] w (rIs (some (.int (bi r0))) w) := by
  intro f
  induction f with
  | zero =>
    intro x1 x2 h
    exact absurd (show (none : Option Bool) = some r0 from h) (by simp)
  | succ f ih =>
    intro x1 x2 h
    rw [J_X10_maySwap_20] at h
    refine rv_iload_n 2 dX10_maySwap_20 rfl ?_
    refine rv_aload_n 0 dX10_maySwap_21 rfl ?_
    refine rv_getI ff_X10_110 dX10_maySwap_22 h (fun v7 h => ?_)
    refine rv_icmp_ge 92 dX10_maySwap_25 (by decide) (fun c8 => ?_) (fun c8 => ?_)
    · replace h := rIfT h c8
      refine rv_iload_n 1 dX10_maySwap_92 rfl ?_
      refine rv_ib h (fun b9 h => ?_)
      exact rv_iret .boolean dX10_maySwap_93 rfl (nbi _) (rRetZp h rfl)
    · replace h := rIfF h c8
      refine rv_aload_n 0 dX10_maySwap_28 rfl ?_
      refine rv_getR ff_X10_28 dX10_maySwap_29 h (fun a10 h => ?_)
      refine rv_iload_n 2 dX10_maySwap_32 rfl ?_
      refine rv_iaload dX10_maySwap_33 h (fun v11 h => ?_)
      refine rv_iconst (v := (-1)) dX10_maySwap_34 (by decide) ?_
      obtain ⟨K47, eK47, h⟩ := rLetE h
      have hK47 : K47 = some r0 → rEv mX10_maySwap 3 0 0 47 [(0, .ref x0), (1, .int x1), (2, .int x2)] [] w (rIs (some (.int (bi r0))) w) := by
        intro h
        rw [eK47] at h
        refine rv_aload_n 0 dX10_maySwap_47 rfl ?_
        refine rv_getR ff_X10_28 dX10_maySwap_48 h (fun a12 h => ?_)
        refine rv_iload_n 2 dX10_maySwap_51 rfl ?_
        refine rv_iaload dX10_maySwap_52 h (fun v13 h => ?_)
        refine rv_iconst (v := 1) dX10_maySwap_53 (by decide) ?_
        obtain ⟨K69, eK69, h⟩ := rLetE h
        have hK69 : K69 = some r0 → rEv mX10_maySwap 3 0 0 69 [(0, .ref x0), (1, .int x1), (2, .int x2)] [] w (rIs (some (.int (bi r0))) w) := by
          intro h
          rw [eK69] at h
          refine rv_iload_n 1 dX10_maySwap_69 rfl ?_
          refine rv_aload_n 0 dX10_maySwap_70 rfl ?_
          refine rv_getR ff_X10_28 dX10_maySwap_71 h (fun a14 h => ?_)
          refine rv_iload_n 2 dX10_maySwap_74 rfl ?_
          refine rv_iaload dX10_maySwap_75 h (fun v15 h => ?_)
          obtain ⟨K84, eK84, h⟩ := rLetE h
          have hK84 : ∀ (z0 : Int32) (z1 : Int32), K84 z0 z1 = some r0 → rEv mX10_maySwap 3 0 0 84 [(0, .ref x0), (2, .int x2)] [.int z1, .int z0] w (rIs (some (.int (bi r0))) w) := by
            intro z16 z17 h
            rw [eK84] at h
            refine rv_ior dX10_maySwap_84 ?_
            refine rv_letI h (fun v18 h => ?_)
            refine rv_istore_n (l2 := [(1, .int v18), (0, .ref x0), (2, .int x2)]) dX10_maySwap_85 rfl rfl ?_
            obtain ⟨v19, ev19, h⟩ := rLetE h
            refine rv_iinc (v := v19) (l2 := [(2, .int v19), (1, .int v18), (0, .ref x0)]) 2 dX10_maySwap_86 rfl (by rw [ev19]; rfl) rfl rfl ?_
            clear ev19
            refine rv_goto 20 dX10_maySwap_89 (by decide) ?_
            exact rv_sub [2, 1, 0] rfl (ih v18 v19 h)
          clear eK84
          refine rv_if_eq 83 dX10_maySwap_76 (by decide) (fun c20 => ?_) (fun c20 => ?_)
          · replace h := rIfT h c20
            refine rv_iconst (v := 0) dX10_maySwap_83 (by decide) ?_
            exact rv_sub [0, 2] rfl (hK84 x1 0 h)
          · replace h := rIfF h c20
            refine rv_iconst (v := 1) dX10_maySwap_79 (by decide) ?_
            refine rv_goto 84 dX10_maySwap_80 (by decide) ?_
            exact rv_sub [0, 2] rfl (hK84 x1 1 h)
        clear eK69
        refine rv_icmp_ne 69 dX10_maySwap_54 (by decide) (fun c21 => ?_) (fun c21 => ?_)
        · replace h := rIfF h c21
          exact rv_sub [0, 1, 2] rfl (hK69 h)
        · replace h := rIfT h c21
          refine rv_aload_n 0 dX10_maySwap_57 rfl ?_
          refine rv_getR ff_X10_31 dX10_maySwap_58 h (fun a22 h => ?_)
          refine rv_iload_n 2 dX10_maySwap_61 rfl ?_
          refine rv_iaload dX10_maySwap_62 h (fun v23 h => ?_)
          refine rv_iconst (v := 1) dX10_maySwap_63 (by decide) ?_
          refine rv_icmp_ne 69 dX10_maySwap_64 (by decide) (fun c24 => ?_) (fun c24 => ?_)
          · replace h := rIfF h c24
            exact rv_sub [0, 1, 2] rfl (hK69 h)
          · replace h := rIfT h c24
            refine rv_iconst (v := 0) dX10_maySwap_67 (by decide) ?_
            exact rv_iret .boolean dX10_maySwap_68 rfl (by decide) (rRetZp (x := 0) h rfl)
      clear eK47
      refine rv_icmp_ne 47 dX10_maySwap_35 (by decide) (fun c25 => ?_) (fun c25 => ?_)
      · replace h := rIfF h c25
        exact rv_sub [0, 1, 2] rfl (hK47 h)
      · replace h := rIfT h c25
        refine rv_aload_n 0 dX10_maySwap_38 rfl ?_
        refine rv_getR ff_X10_31 dX10_maySwap_39 h (fun a26 h => ?_)
        refine rv_iload_n 2 dX10_maySwap_42 rfl ?_
        refine rv_iaload dX10_maySwap_43 h (fun v27 h => ?_)
        refine rv_if_eq 67 dX10_maySwap_44 (by decide) (fun c28 => ?_) (fun c28 => ?_)
        · replace h := rIfT h c28
          refine rv_iconst (v := 0) dX10_maySwap_67 (by decide) ?_
          exact rv_iret .boolean dX10_maySwap_68 rfl (by decide) (rRetZp (x := 0) h rfl)
        · replace h := rIfF h c28
          exact rv_sub [0, 1, 2] rfl (hK47 h)
set_option maxRecDepth 20000 in
theorem E_X10_maySwap {x0 : Nat} {r0 : Bool} {w : rW} (h : J_X10_maySwap x0 w = some r0) : (∃ fs, w[x0]? = some (cO 10 fs)) ∧ rMet mX10_maySwap 3 0 0 [.ref x0] w (rIs (some (.int (bi r0))) w) := by
  unfold J_X10_maySwap at h
  obtain ⟨hrc, h⟩ := rRc_some h
  refine ⟨hrc, ?_⟩
  refine rMet_of (by decide) rfl ?_
  refine rv_aload_n 0 dX10_maySwap_0 rfl ?_
  obtain ⟨b2, h1, h⟩ := rBind h
  refine rv_callVr (k3 := 0) (n3 := 0) (st2 := []) caX10_isPlain cvX10_isPlain ml_X10_175 dX10_maySwap_1 rfl (E_X10_isPlain h1).2 (E_X10_isPlain h1).1 rfl rfl rfl rfl rfl ?_
  clear h1
  refine rv_if_eq 14 dX10_maySwap_4 (by decide) (fun c3 => ?_) (fun c3 => ?_)
  · replace h := rIfT h c3
    refine rv_iconst (v := 0) dX10_maySwap_14 (by decide) ?_
    exact rv_iret .boolean dX10_maySwap_15 rfl (by decide) (rRetZp (x := 0) h rfl)
  · replace h := rIfF h c3
    refine rv_aload_n 0 dX10_maySwap_7 rfl ?_
    obtain ⟨b5, h4, h⟩ := rBind h
    refine rv_callVr (k3 := 0) (n3 := 0) (st2 := []) caX10_isTrade cvX10_isTrade ml_X10_179 dX10_maySwap_8 rfl (E_X10_isTrade h4).2 (E_X10_isTrade h4).1 rfl rfl rfl rfl rfl ?_
    clear h4
    refine rv_if_ne 16 dX10_maySwap_11 (by decide) (fun c6 => ?_) (fun c6 => ?_)
    · replace h := rIfF h c6
      refine rv_iconst (v := 0) dX10_maySwap_16 (by decide) ?_
      refine rv_istore_n (l2 := [(1, .int 0), (0, .ref x0)]) dX10_maySwap_17 rfl rfl ?_
      refine rv_iconst (v := 0) dX10_maySwap_18 (by decide) ?_
      refine rv_istore_n (l2 := [(2, .int 0), (1, .int 0), (0, .ref x0)]) dX10_maySwap_19 rfl rfl ?_
      exact rv_sub [2, 1, 0] rfl (E_X10_maySwap_20 x0 w 2000 0 0 h)
    · replace h := rIfT h c6
      refine rv_iconst (v := 0) dX10_maySwap_14 (by decide) ?_
      exact rv_iret .boolean dX10_maySwap_15 rfl (by decide) (rRetZp (x := 0) h rfl)
set_option maxRecDepth 20000 in
theorem E_X10_swaps_2 {w0 : rW}  (x0 : Nat)   : ∀ (f : Nat) (x1 : Int32) (w : rW), J_X10_swaps_2 x0 f x1 w = some w0 → rEv mX10_swaps 0 0 0 2 [(0, .ref x0), (1, .int x1)] [] w (rIs none w0) := by
  intro f
  induction f with
  | zero =>
    intro x1 w h
    exact absurd (show (none : Option rW) = some w0 from h) (by simp)
  | succ f ih =>
    intro x1 w h
    rw [J_X10_swaps_2] at h
    refine rv_iload_n 1 dX10_swaps_2 rfl ?_
    refine rv_aload_n 0 dX10_swaps_3 rfl ?_
    refine rv_getI ff_X10_110 dX10_swaps_4 h (fun v1 h => ?_)
    refine rv_icmp_ge 31 dX10_swaps_7 (by decide) (fun c2 => ?_) (fun c2 => ?_)
    · replace h := rIfT h c2
      exact rv_vret dX10_swaps_31 rfl (rRetV h)
    · replace h := rIfF h c2
      refine rv_aload_n 0 dX10_swaps_10 rfl ?_
      refine rv_getR ff_X10_31 dX10_swaps_11 h (fun a3 h => ?_)
      refine rv_iload_n 1 dX10_swaps_14 rfl ?_
      refine rv_dup2 dX10_swaps_15 rfl rfl ?_
      refine rv_iaload dX10_swaps_16 h (fun v4 h => ?_)
      refine rv_aload_n 0 dX10_swaps_17 rfl ?_
      refine rv_getR ff_X10_28 dX10_swaps_18 h (fun a5 h => ?_)
      refine rv_iload_n 1 dX10_swaps_21 rfl ?_
      refine rv_iaload dX10_swaps_22 h (fun v6 h => ?_)
      refine rv_iadd dX10_swaps_23 ?_
      refine rv_iastore dX10_swaps_24 h (fun w7 h => ?_)
      obtain ⟨v8, ev8, h⟩ := rLetE h
      refine rv_iinc (v := v8) (l2 := [(1, .int v8), (0, .ref x0)]) 1 dX10_swaps_25 rfl (by rw [ev8]; rfl) rfl rfl ?_
      clear ev8
      refine rv_goto 2 dX10_swaps_28 (by decide) ?_
      exact rv_sub [1, 0] rfl (ih v8 w7 h)
set_option maxRecDepth 20000 in
theorem E_X10_swaps {x0 : Nat} {w0 : rW} {w : rW} (h : J_X10_swaps x0 w = some w0) : (∃ fs, w[x0]? = some (cO 10 fs)) ∧ rMet mX10_swaps 0 0 0 [.ref x0] w (rIs none w0) := by
  unfold J_X10_swaps at h
  obtain ⟨hrc, h⟩ := rRc_some h
  refine ⟨hrc, ?_⟩
  refine rMet_of (by decide) rfl ?_
  refine rv_iconst (v := 0) dX10_swaps_0 (by decide) ?_
  refine rv_istore_n (l2 := [(1, .int 0), (0, .ref x0)]) dX10_swaps_1 rfl rfl ?_
  exact rv_sub [1, 0] rfl (E_X10_swaps_2 x0 2000 0 w h)
set_option maxRecDepth 20000 in
theorem E_X10_swap {x0 : Nat} {r0 : Int32} {w0 : rW} {w : rW} (h : J_X10_swap x0 w = some (r0, w0)) : (∃ fs, w[x0]? = some (cO 10 fs)) ∧ rMet mX10_swap 4 0 0 [.ref x0] w (rIs (some (.int r0)) w0) := by
  unfold J_X10_swap at h
  obtain ⟨hrc, h⟩ := rRc_some h
  refine ⟨hrc, ?_⟩
  refine rMet_of (by decide) rfl ?_
  refine rv_aload_n 0 dX10_swap_0 rfl ?_
  obtain ⟨b2, h1, h⟩ := rBind h
  refine rv_callVr (k3 := 0) (n3 := 0) (st2 := []) caX10_maySwap cvX10_maySwap ml_X10_182 dX10_swap_1 rfl (E_X10_maySwap h1).2 (E_X10_maySwap h1).1 rfl rfl rfl rfl rfl ?_
  clear h1
  refine rv_if_ne 10 dX10_swap_4 (by decide) (fun c3 => ?_) (fun c3 => ?_)
  · replace h := rIfF h c3
    refine rv_aload_n 0 dX10_swap_10 rfl ?_
    obtain ⟨w5, h4, h⟩ := rBind h
    refine rv_callVv (k3 := 0) (n3 := 0) (st2 := []) caX10_swaps cvX10_swaps ml_X10_185 dX10_swap_11 rfl (E_X10_swaps h4).2 (E_X10_swaps h4).1 rfl rfl rfl rfl rfl ?_
    clear h4
    refine rv_aload_n 0 dX10_swap_14 rfl ?_
    obtain ⟨v7, h6, h⟩ := rBind h
    refine rv_callVr (k3 := 0) (n3 := 0) (st2 := []) caX10_inDesign cvX10_inDesign ml_X10_188 dX10_swap_15 rfl (E_X10_inDesign h6).2 (E_X10_inDesign h6).1 rfl rfl rfl rfl rfl ?_
    clear h6
    exact rv_iret .int dX10_swap_18 rfl rfl (rRetIw h)
  · replace h := rIfT h c3
    refine rv_bipush (v := (-3)) dX10_swap_7 (by decide) ?_
    exact rv_iret .int dX10_swap_9 rfl rfl (rRetIw h)
set_option maxRecDepth 20000 in
theorem E_X10_keep_2 {r0 : Int32} {w0 : rW}  (x0 : Nat)  {K28 : rW → Option (Int32 × rW)} (hK28 : ∀ (w : rW), K28 w = some (r0, w0) → rEv mX10_keep 1 0 0 28 [(0, .ref x0)] [] w (rIs (some (.int r0)) w0)) : ∀ (f : Nat) (x1 : Int32) (w : rW), J_X10_keep_2 x0 K28 f x1 w = some (r0, w0) → rEv mX10_keep 1 0 0 2 [(0, .ref x0), (1, .int x1)] [] w (rIs (some (.int r0)) w0) := by
  intro f
  induction f with
  | zero =>
    intro x1 w h
    exact absurd (show (none : Option (Int32 × rW)) = some (r0, w0) from h) (by simp)
  | succ f ih =>
    intro x1 w h
    rw [J_X10_keep_2] at h
    refine rv_iload_n 1 dX10_keep_2 rfl ?_
    refine rv_aload_n 0 dX10_keep_3 rfl ?_
    refine rv_getI ff_X10_110 dX10_keep_4 h (fun v4 h => ?_)
    refine rv_icmp_ge 28 dX10_keep_7 (by decide) (fun c5 => ?_) (fun c5 => ?_)
    · replace h := rIfT h c5
      exact rv_sub [0] rfl (hK28 w h)
    · replace h := rIfF h c5
      refine rv_aload_n 0 dX10_keep_10 rfl ?_
      refine rv_getR ff_X10_34 dX10_keep_11 h (fun a6 h => ?_)
      refine rv_iload_n 1 dX10_keep_14 rfl ?_
      refine rv_aload_n 0 dX10_keep_15 rfl ?_
      refine rv_getR ff_X10_31 dX10_keep_16 h (fun a7 h => ?_)
      refine rv_iload_n 1 dX10_keep_19 rfl ?_
      refine rv_iaload dX10_keep_20 h (fun v8 h => ?_)
      refine rv_iastore dX10_keep_21 h (fun w9 h => ?_)
      obtain ⟨v10, ev10, h⟩ := rLetE h
      refine rv_iinc (v := v10) (l2 := [(1, .int v10), (0, .ref x0)]) 1 dX10_keep_22 rfl (by rw [ev10]; rfl) rfl rfl ?_
      clear ev10
      refine rv_goto 2 dX10_keep_25 (by decide) ?_
      exact rv_sub [1, 0] rfl (ih v10 w9 h)
set_option maxRecDepth 20000 in
theorem E_X10_keep {x0 : Nat} {r0 : Int32} {w0 : rW} {w : rW} (h : J_X10_keep x0 w = some (r0, w0)) : (∃ fs, w[x0]? = some (cO 10 fs)) ∧ rMet mX10_keep 1 0 0 [.ref x0] w (rIs (some (.int r0)) w0) := by
  unfold J_X10_keep at h
  obtain ⟨hrc, h⟩ := rRc_some h
  refine ⟨hrc, ?_⟩
  refine rMet_of (by decide) rfl ?_
  refine rv_iconst (v := 0) dX10_keep_0 (by decide) ?_
  refine rv_istore_n (l2 := [(1, .int 0), (0, .ref x0)]) dX10_keep_1 rfl rfl ?_
  obtain ⟨K28, eK28, h⟩ := rLetE h
  have hK28 : ∀ (w : rW), K28 w = some (r0, w0) → rEv mX10_keep 1 0 0 28 [(0, .ref x0)] [] w (rIs (some (.int r0)) w0) := by
    intro w1 h
    rw [eK28] at h
    refine rv_aload_n 0 dX10_keep_28 rfl ?_
    obtain ⟨v3, h2, h⟩ := rBind h
    refine rv_callVr (k3 := 0) (n3 := 0) (st2 := []) caX10_inDesign cvX10_inDesign ml_X10_188 dX10_keep_29 rfl (E_X10_inDesign h2).2 (E_X10_inDesign h2).1 rfl rfl rfl rfl rfl ?_
    clear h2
    exact rv_iret .int dX10_keep_32 rfl rfl (rRetIw h)
  clear eK28
  exact rv_sub [1, 0] rfl (E_X10_keep_2 x0 hK28 2000 0 w h)
set_option maxRecDepth 20000 in
theorem E_X10_differ_2 {r0 : Int32} {w0 : rW}  (x0 : Nat)  {K35 : rW → Option (Int32 × rW)} (hK35 : ∀ (w : rW), K35 w = some (r0, w0) → rEv mX10_differ 2 0 0 35 [(0, .ref x0)] [] w (rIs (some (.int r0)) w0)) : ∀ (f : Nat) (x1 : Int32) (w : rW), J_X10_differ_2 x0 K35 f x1 w = some (r0, w0) → rEv mX10_differ 2 0 0 2 [(0, .ref x0), (1, .int x1)] [] w (rIs (some (.int r0)) w0) := by
  intro f
  induction f with
  | zero =>
    intro x1 w h
    exact absurd (show (none : Option (Int32 × rW)) = some (r0, w0) from h) (by simp)
  | succ f ih =>
    intro x1 w h
    rw [J_X10_differ_2] at h
    refine rv_iload_n 1 dX10_differ_2 rfl ?_
    refine rv_aload_n 0 dX10_differ_3 rfl ?_
    refine rv_getI ff_X10_110 dX10_differ_4 h (fun v4 h => ?_)
    refine rv_icmp_ge 35 dX10_differ_7 (by decide) (fun c5 => ?_) (fun c5 => ?_)
    · replace h := rIfT h c5
      exact rv_sub [0] rfl (hK35 w h)
    · replace h := rIfF h c5
      refine rv_aload_n 0 dX10_differ_10 rfl ?_
      refine rv_getR ff_X10_28 dX10_differ_11 h (fun a6 h => ?_)
      refine rv_iload_n 1 dX10_differ_14 rfl ?_
      refine rv_aload_n 0 dX10_differ_15 rfl ?_
      refine rv_getR ff_X10_31 dX10_differ_16 h (fun a7 h => ?_)
      refine rv_iload_n 1 dX10_differ_19 rfl ?_
      refine rv_iaload dX10_differ_20 h (fun v8 h => ?_)
      refine rv_aload_n 0 dX10_differ_21 rfl ?_
      refine rv_getR ff_X10_34 dX10_differ_22 h (fun a9 h => ?_)
      refine rv_iload_n 1 dX10_differ_25 rfl ?_
      refine rv_iaload dX10_differ_26 h (fun v10 h => ?_)
      refine rv_isub dX10_differ_27 ?_
      refine rv_iastore dX10_differ_28 h (fun w11 h => ?_)
      obtain ⟨v12, ev12, h⟩ := rLetE h
      refine rv_iinc (v := v12) (l2 := [(1, .int v12), (0, .ref x0)]) 1 dX10_differ_29 rfl (by rw [ev12]; rfl) rfl rfl ?_
      clear ev12
      refine rv_goto 2 dX10_differ_32 (by decide) ?_
      exact rv_sub [1, 0] rfl (ih v12 w11 h)
set_option maxRecDepth 20000 in
theorem E_X10_differ {x0 : Nat} {r0 : Int32} {w0 : rW} {w : rW} (h : J_X10_differ x0 w = some (r0, w0)) : (∃ fs, w[x0]? = some (cO 10 fs)) ∧ rMet mX10_differ 2 0 0 [.ref x0] w (rIs (some (.int r0)) w0) := by
  unfold J_X10_differ at h
  obtain ⟨hrc, h⟩ := rRc_some h
  refine ⟨hrc, ?_⟩
  refine rMet_of (by decide) rfl ?_
  refine rv_iconst (v := 0) dX10_differ_0 (by decide) ?_
  refine rv_istore_n (l2 := [(1, .int 0), (0, .ref x0)]) dX10_differ_1 rfl rfl ?_
  obtain ⟨K35, eK35, h⟩ := rLetE h
  have hK35 : ∀ (w : rW), K35 w = some (r0, w0) → rEv mX10_differ 2 0 0 35 [(0, .ref x0)] [] w (rIs (some (.int r0)) w0) := by
    intro w1 h
    rw [eK35] at h
    refine rv_aload_n 0 dX10_differ_35 rfl ?_
    obtain ⟨v3, h2, h⟩ := rBind h
    refine rv_callVr (k3 := 0) (n3 := 0) (st2 := []) caX10_volume cvX10_volume ml_X10_167 dX10_differ_36 rfl (E_X10_volume h2).2 (E_X10_volume h2).1 rfl rfl rfl rfl rfl ?_
    clear h2
    exact rv_iret .int dX10_differ_39 rfl rfl (rRetIw h)
  clear eK35
  exact rv_sub [1, 0] rfl (E_X10_differ_2 x0 hK35 2000 0 w h)
set_option maxRecDepth 20000 in
theorem E_X10_exchanges_96 {w0 : rW}  (x0 : Nat) (x1 : Nat)   : ∀ (f : Nat) (x4 : Int32) (w : rW), J_X10_exchanges_96 x0 x1 f x4 w = some w0 → rEv mX10_exchanges 0 0 0 96 [(0, .ref x0), (1, .ref x1), (4, .int x4)] [] w (rIs none w0) := by
  intro f
  induction f with
  | zero =>
    intro x4 w h
    exact absurd (show (none : Option rW) = some w0 from h) (by simp)
  | succ f ih =>
    intro x4 w h
    rw [J_X10_exchanges_96] at h
    refine rv_iload 2 dX10_exchanges_96 rfl ?_
    refine rv_aload_n 0 dX10_exchanges_98 rfl ?_
    refine rv_getI ff_X10_110 dX10_exchanges_99 h (fun v2 h => ?_)
    refine rv_icmp_ge 122 dX10_exchanges_102 (by decide) (fun c3 => ?_) (fun c3 => ?_)
    · replace h := rIfT h c3
      exact rv_vret dX10_exchanges_122 rfl (rRetV h)
    · replace h := rIfF h c3
      refine rv_aload_n 1 dX10_exchanges_105 rfl ?_
      refine rv_iload 2 dX10_exchanges_106 rfl ?_
      refine rv_aload_n 0 dX10_exchanges_108 rfl ?_
      refine rv_getR ff_X10_86 dX10_exchanges_109 h (fun a4 h => ?_)
      refine rv_iload 2 dX10_exchanges_112 rfl ?_
      refine rv_iaload dX10_exchanges_114 h (fun v5 h => ?_)
      refine rv_iastore dX10_exchanges_115 h (fun w6 h => ?_)
      obtain ⟨v7, ev7, h⟩ := rLetE h
      refine rv_iinc (v := v7) (l2 := [(4, .int v7), (0, .ref x0), (1, .ref x1)]) 2 dX10_exchanges_116 rfl (by rw [ev7]; rfl) rfl rfl ?_
      clear ev7
      refine rv_goto 96 dX10_exchanges_119 (by decide) ?_
      exact rv_sub [1, 2, 0] rfl (ih v7 w6 h)
set_option maxRecDepth 20000 in
theorem E_X10_exchanges_3 {w0 : rW}  (x0 : Nat) (x1 : Nat) (x2 : Int32) (x3 : Int32)  {K93 : rW → Option rW} (hK93 : ∀ (w : rW), K93 w = some w0 → rEv mX10_exchanges 0 0 0 93 [(0, .ref x0), (1, .ref x1)] [] w (rIs none w0)) : ∀ (f : Nat) (x4 : Int32) (w : rW), J_X10_exchanges_3 x0 x1 x2 x3 K93 f x4 w = some w0 → rEv mX10_exchanges 0 0 0 3 [(0, .ref x0), (1, .ref x1), (2, .int x2), (3, .int x3), (4, .int x4)] [] w (rIs none w0) := by
  intro f
  induction f with
  | zero =>
    intro x4 w h
    exact absurd (show (none : Option rW) = some w0 from h) (by simp)
  | succ f ih =>
    intro x4 w h
    rw [J_X10_exchanges_3] at h
    refine rv_iload 4 dX10_exchanges_3 rfl ?_
    refine rv_aload_n 0 dX10_exchanges_5 rfl ?_
    refine rv_getI ff_X10_110 dX10_exchanges_6 h (fun v8 h => ?_)
    refine rv_icmp_ge 93 dX10_exchanges_9 (by decide) (fun c9 => ?_) (fun c9 => ?_)
    · replace h := rIfT h c9
      exact rv_sub [0, 1] rfl (hK93 w h)
    · replace h := rIfF h c9
      refine rv_aload_n 0 dX10_exchanges_12 rfl ?_
      refine rv_getR ff_X10_21 dX10_exchanges_13 h (fun a10 h => ?_)
      refine rv_iload 4 dX10_exchanges_16 rfl ?_
      refine rv_iaload dX10_exchanges_18 h (fun v11 h => ?_)
      refine rv_istore (l2 := [(5, .int v11), (0, .ref x0), (1, .ref x1), (2, .int x2), (3, .int x3), (4, .int x4)]) dX10_exchanges_19 rfl rfl ?_
      refine rv_iload 0 dX10_exchanges_21 rfl ?_
      refine rv_iconst (v := 1) dX10_exchanges_23 (by decide) ?_
      refine rv_iload_n 3 dX10_exchanges_24 rfl ?_
      refine rv_ishl dX10_exchanges_25 ?_
      refine rv_iconst (v := 1) dX10_exchanges_26 (by decide) ?_
      refine rv_iload_n 4 dX10_exchanges_27 rfl ?_
      refine rv_ishl dX10_exchanges_28 ?_
      refine rv_ior dX10_exchanges_29 ?_
      refine rv_iconst (v := (-1)) dX10_exchanges_30 (by decide) ?_
      refine rv_ixor dX10_exchanges_31 ?_
      refine rv_iand dX10_exchanges_32 ?_
      refine rv_letI h (fun v12 h => ?_)
      refine rv_istore (l2 := [(6, .int v12), (5, .int v11), (0, .ref x0), (1, .ref x1), (2, .int x2), (3, .int x3), (4, .int x4)]) dX10_exchanges_33 rfl rfl ?_
      refine rv_iload 1 dX10_exchanges_35 rfl ?_
      refine rv_iload_n 4 dX10_exchanges_37 rfl ?_
      refine rv_ishr dX10_exchanges_38 ?_
      refine rv_iconst (v := 1) dX10_exchanges_39 (by decide) ?_
      refine rv_iand dX10_exchanges_40 ?_
      refine rv_iconst (v := 1) dX10_exchanges_41 (by decide) ?_
      obtain ⟨K53, eK53, h⟩ := rLetE h
      have hK53 : ∀ (y6 : Int32), K53 y6 = some w0 → rEv mX10_exchanges 0 0 0 53 [(0, .ref x0), (1, .ref x1), (2, .int x2), (3, .int x3), (4, .int x4), (5, .int v11), (6, .int y6)] [] w (rIs none w0) := by
        intro x6_13 h
        rw [eK53] at h
        refine rv_iload 5 dX10_exchanges_53 rfl ?_
        refine rv_iload_n 3 dX10_exchanges_55 rfl ?_
        refine rv_ishr dX10_exchanges_56 ?_
        refine rv_iconst (v := 1) dX10_exchanges_57 (by decide) ?_
        refine rv_iand dX10_exchanges_58 ?_
        refine rv_iconst (v := 1) dX10_exchanges_59 (by decide) ?_
        obtain ⟨K71, eK71, h⟩ := rLetE h
        have hK71 : ∀ (y6 : Int32), K71 y6 = some w0 → rEv mX10_exchanges 0 0 0 71 [(0, .ref x0), (1, .ref x1), (2, .int x2), (3, .int x3), (4, .int x4), (6, .int y6)] [] w (rIs none w0) := by
          intro x6_14 h
          rw [eK71] at h
          refine rv_aload_n 0 dX10_exchanges_71 rfl ?_
          refine rv_getR ff_X10_86 dX10_exchanges_72 h (fun a15 h => ?_)
          refine rv_aload_n 0 dX10_exchanges_75 rfl ?_
          refine rv_getR ff_X10_25 dX10_exchanges_76 h (fun a16 h => ?_)
          refine rv_iload 5 dX10_exchanges_79 rfl ?_
          refine rv_iaload dX10_exchanges_81 h (fun v17 h => ?_)
          refine rv_aload_n 1 dX10_exchanges_82 rfl ?_
          refine rv_iload 4 dX10_exchanges_83 rfl ?_
          refine rv_iaload dX10_exchanges_85 h (fun v18 h => ?_)
          refine rv_iastore dX10_exchanges_86 h (fun w19 h => ?_)
          obtain ⟨v20, ev20, h⟩ := rLetE h
          refine rv_iinc (v := v20) (l2 := [(4, .int v20), (0, .ref x0), (1, .ref x1), (2, .int x2), (3, .int x3), (6, .int x6_14)]) 4 dX10_exchanges_87 rfl (by rw [ev20]; rfl) rfl rfl ?_
          clear ev20
          refine rv_goto 3 dX10_exchanges_90 (by decide) ?_
          exact rv_sub [1, 2, 3, 4, 0] rfl (ih v20 w19 h)
        clear eK71
        refine rv_icmp_ne 71 dX10_exchanges_60 (by decide) (fun c21 => ?_) (fun c21 => ?_)
        · replace h := rIfF h c21
          exact rv_sub [0, 1, 2, 3, 4, 6] rfl (hK71 x6_13 h)
        · replace h := rIfT h c21
          refine rv_iload 6 dX10_exchanges_63 rfl ?_
          refine rv_iconst (v := 1) dX10_exchanges_65 (by decide) ?_
          refine rv_iload_n 2 dX10_exchanges_66 rfl ?_
          refine rv_ishl dX10_exchanges_67 ?_
          refine rv_ior dX10_exchanges_68 ?_
          refine rv_letI h (fun v22 h => ?_)
          refine rv_istore (l2 := [(6, .int v22), (0, .ref x0), (1, .ref x1), (2, .int x2), (3, .int x3), (4, .int x4), (5, .int v11)]) dX10_exchanges_69 rfl rfl ?_
          exact rv_sub [1, 2, 3, 4, 5, 0] rfl (hK71 v22 h)
      clear eK53
      refine rv_icmp_ne 53 dX10_exchanges_42 (by decide) (fun c23 => ?_) (fun c23 => ?_)
      · replace h := rIfF h c23
        exact rv_sub [2, 3, 4, 5, 6, 1, 0] rfl (hK53 v12 h)
      · replace h := rIfT h c23
        refine rv_iload 0 dX10_exchanges_45 rfl ?_
        refine rv_iconst (v := 1) dX10_exchanges_47 (by decide) ?_
        refine rv_iload_n 5 dX10_exchanges_48 rfl ?_
        refine rv_ishl dX10_exchanges_49 ?_
        refine rv_ior dX10_exchanges_50 ?_
        refine rv_letI h (fun v24 h => ?_)
        refine rv_istore (l2 := [(6, .int v24), (5, .int v11), (0, .ref x0), (1, .ref x1), (2, .int x2), (3, .int x3), (4, .int x4)]) dX10_exchanges_51 rfl rfl ?_
        exact rv_sub [2, 3, 4, 5, 6, 1, 0] rfl (hK53 v24 h)
set_option maxRecDepth 20000 in
theorem E_X10_exchanges {x0 : Nat} {x1 : Nat} {x2 : Int32} {x3 : Int32} {w0 : rW} {w : rW} (h : J_X10_exchanges x0 x1 x2 x3 w = some w0) : (∃ fs, w[x0]? = some (cO 10 fs)) ∧ rMet mX10_exchanges 0 0 0 [.ref x0, .ref x1, .int x2, .int x3] w (rIs none w0) := by
  unfold J_X10_exchanges at h
  obtain ⟨hrc, h⟩ := rRc_some h
  refine ⟨hrc, ?_⟩
  refine rMet_of (by decide) rfl ?_
  refine rv_iconst (v := 0) dX10_exchanges_0 (by decide) ?_
  refine rv_istore (l2 := [(4, .int 0), (0, .ref x0), (1, .ref x1), (2, .int x2), (3, .int x3)]) dX10_exchanges_1 rfl rfl ?_
  obtain ⟨K93, eK93, h⟩ := rLetE h
  have hK93 : ∀ (w : rW), K93 w = some w0 → rEv mX10_exchanges 0 0 0 93 [(0, .ref x0), (1, .ref x1)] [] w (rIs none w0) := by
    intro w1 h
    rw [eK93] at h
    refine rv_iconst (v := 0) dX10_exchanges_93 (by decide) ?_
    refine rv_istore (l2 := [(4, .int 0), (0, .ref x0), (1, .ref x1)]) dX10_exchanges_94 rfl rfl ?_
    exact rv_sub [1, 2, 0] rfl (E_X10_exchanges_96 x0 x1 2000 0 w1 h)
  clear eK93
  exact rv_sub [1, 2, 3, 4, 0] rfl (E_X10_exchanges_3 x0 x1 x2 x3 hK93 2000 0 w h)
set_option maxRecDepth 20000 in
theorem E_X10_exchange {x0 : Nat} {x1 : Int32} {x2 : Int32} {r0 : Int32} {w0 : rW} {w : rW} (h : J_X10_exchange x0 x1 x2 w = some (r0, w0)) : (∃ fs, w[x0]? = some (cO 10 fs)) ∧ rMet mX10_exchange 2 0 0 [.ref x0, .int x1, .int x2] w (rIs (some (.int r0)) w0) := by
  unfold J_X10_exchange at h
  obtain ⟨hrc, h⟩ := rRc_some h
  refine ⟨hrc, ?_⟩
  refine rMet_of (by decide) rfl ?_
  refine rv_aload_n 0 dX10_exchange_0 rfl ?_
  refine rv_iload_n 1 dX10_exchange_1 rfl ?_
  obtain ⟨b2, h1, h⟩ := rBind h
  refine rv_callVr (k3 := 0) (n3 := 0) (st2 := []) caX10_isPoint cvX10_isPoint ml_X10_154 dX10_exchange_2 rfl (E_X10_isPoint h1).2 (E_X10_isPoint h1).1 rfl rfl rfl rfl rfl ?_
  clear h1
  refine rv_if_eq 21 dX10_exchange_5 (by decide) (fun c3 => ?_) (fun c3 => ?_)
  · replace h := rIfT h c3
    refine rv_iconst (v := (-1)) dX10_exchange_21 (by decide) ?_
    exact rv_iret .int dX10_exchange_22 rfl rfl (rRetIw h)
  · replace h := rIfF h c3
    refine rv_aload_n 0 dX10_exchange_8 rfl ?_
    refine rv_iload_n 2 dX10_exchange_9 rfl ?_
    obtain ⟨b5, h4, h⟩ := rBind h
    refine rv_callVr (k3 := 0) (n3 := 0) (st2 := []) caX10_isPoint cvX10_isPoint ml_X10_154 dX10_exchange_10 rfl (E_X10_isPoint h4).2 (E_X10_isPoint h4).1 rfl rfl rfl rfl rfl ?_
    clear h4
    refine rv_if_eq 21 dX10_exchange_13 (by decide) (fun c6 => ?_) (fun c6 => ?_)
    · replace h := rIfT h c6
      refine rv_iconst (v := (-1)) dX10_exchange_21 (by decide) ?_
      exact rv_iret .int dX10_exchange_22 rfl rfl (rRetIw h)
    · replace h := rIfF h c6
      refine rv_iload_n 1 dX10_exchange_16 rfl ?_
      refine rv_iload_n 2 dX10_exchange_17 rfl ?_
      refine rv_icmp_ne 23 dX10_exchange_18 (by decide) (fun c7 => ?_) (fun c7 => ?_)
      · replace h := rIfF h c7
        refine rv_aload_n 0 dX10_exchange_23 rfl ?_
        refine rv_aload_n 0 dX10_exchange_24 rfl ?_
        refine rv_getR ff_X10_28 dX10_exchange_25 h (fun a8 h => ?_)
        refine rv_iload_n 1 dX10_exchange_28 rfl ?_
        refine rv_iload_n 2 dX10_exchange_29 rfl ?_
        obtain ⟨w10, h9, h⟩ := rBind h
        refine rv_callVv (k3 := 0) (n3 := 0) (st2 := []) caX10_exchanges cvX10_exchanges ml_X10_191 dX10_exchange_30 rfl (E_X10_exchanges h9).2 (E_X10_exchanges h9).1 rfl rfl rfl rfl rfl ?_
        clear h9
        refine rv_aload_n 0 dX10_exchange_33 rfl ?_
        refine rv_aload_n 0 dX10_exchange_34 rfl ?_
        refine rv_getR ff_X10_31 dX10_exchange_35 h (fun a11 h => ?_)
        refine rv_iload_n 1 dX10_exchange_38 rfl ?_
        refine rv_iload_n 2 dX10_exchange_39 rfl ?_
        obtain ⟨w13, h12, h⟩ := rBind h
        refine rv_callVv (k3 := 0) (n3 := 0) (st2 := []) caX10_exchanges cvX10_exchanges ml_X10_191 dX10_exchange_40 rfl (E_X10_exchanges h12).2 (E_X10_exchanges h12).1 rfl rfl rfl rfl rfl ?_
        clear h12
        refine rv_aload_n 0 dX10_exchange_43 rfl ?_
        refine rv_aload_n 0 dX10_exchange_44 rfl ?_
        refine rv_getR ff_X10_34 dX10_exchange_45 h (fun a14 h => ?_)
        refine rv_iload_n 1 dX10_exchange_48 rfl ?_
        refine rv_iload_n 2 dX10_exchange_49 rfl ?_
        obtain ⟨w16, h15, h⟩ := rBind h
        refine rv_callVv (k3 := 0) (n3 := 0) (st2 := []) caX10_exchanges cvX10_exchanges ml_X10_191 dX10_exchange_50 rfl (E_X10_exchanges h15).2 (E_X10_exchanges h15).1 rfl rfl rfl rfl rfl ?_
        clear h15
        refine rv_iconst (v := 1) dX10_exchange_53 (by decide) ?_
        exact rv_iret .int dX10_exchange_54 rfl rfl (rRetIw h)
      · replace h := rIfT h c7
        refine rv_iconst (v := (-1)) dX10_exchange_21 (by decide) ?_
        exact rv_iret .int dX10_exchange_22 rfl rfl (rRetIw h)
set_option maxRecDepth 20000 in
theorem E_X10_feed {x0 : Nat} {x1 : Int32} {r0 : Int32} {w0 : rW} {w : rW} (h : J_X10_feed x0 x1 w = some (r0, w0)) : (∃ fs, w[x0]? = some (cO 10 fs)) ∧ rMet mX10_feed 1 0 0 [.ref x0, .int x1] w (rIs (some (.int r0)) w0) := by
  unfold J_X10_feed at h
  obtain ⟨hrc, h⟩ := rRc_some h
  refine ⟨hrc, ?_⟩
  refine rMet_of (by decide) rfl ?_
  refine rv_iload_n 1 dX10_feed_0 rfl ?_
  refine rv_i2l dX10_feed_1 ?_
  refine rv_lconst (v := 0) dX10_feed_2 (by decide) ?_
  refine rv_ldc2 dX10_feed_3 kl_X10_195 ?_
  obtain ⟨b2, h1, h⟩ := rBind h
  refine rv_callSr (k3 := 0) (n3 := 0) (st2 := []) (As := [.long (Int32.toInt64 x1), .long 0, .long 127]) caX10_in csX10_in ml_X10_116 dX10_feed_6 rfl (E_X10_in h1) rfl rfl rfl rfl rfl ?_
  clear h1
  refine rv_if_ne 15 dX10_feed_9 (by decide) (fun c3 => ?_) (fun c3 => ?_)
  · replace h := rIfF h c3
    refine rv_aload_n 0 dX10_feed_15 rfl ?_
    refine rv_getI ff_X10_197 dX10_feed_16 h (fun v4 h => ?_)
    refine rv_bipush (v := 100) dX10_feed_19 (by decide) ?_
    refine rv_icmp_ne 27 dX10_feed_21 (by decide) (fun c5 => ?_) (fun c5 => ?_)
    · replace h := rIfF h c5
      refine rv_aload_n 0 dX10_feed_27 rfl ?_
      refine rv_getR ff_X10_55 dX10_feed_28 h (fun a6 h => ?_)
      refine rv_aload_n 0 dX10_feed_31 rfl ?_
      refine rv_dup dX10_feed_32 rfl ?_
      refine rv_getI ff_X10_197 dX10_feed_33 h (fun v7 h => ?_)
      refine rv_dup_x1 dX10_feed_36 rfl rfl ?_
      refine rv_iconst (v := 1) dX10_feed_37 (by decide) ?_
      refine rv_iadd dX10_feed_38 ?_
      refine rv_putI ff_X10_197 (fp_X10_19 _) dX10_feed_39 h (fun w8 h => ?_)
      refine rv_iload_n 1 dX10_feed_42 rfl ?_
      refine rv_iastore dX10_feed_43 h (fun w9 h => ?_)
      refine rv_aload_n 0 dX10_feed_44 rfl ?_
      refine rv_getI ff_X10_197 dX10_feed_45 h (fun v10 h => ?_)
      exact rv_iret .int dX10_feed_48 rfl rfl (rRetIw h)
    · replace h := rIfT h c5
      refine rv_bipush (v := (-4)) dX10_feed_24 (by decide) ?_
      exact rv_iret .int dX10_feed_26 rfl rfl (rRetIw h)
  · replace h := rIfT h c3
    refine rv_bipush (v := (-2)) dX10_feed_12 (by decide) ?_
    exact rv_iret .int dX10_feed_14 rfl rfl (rRetIw h)
set_option maxRecDepth 20000 in
theorem E_X10_sign {x0 : Nat} {r0 : Int32} {w : rW} (h : J_X10_sign x0 w = some r0) : (∃ fs, w[x0]? = some (cO 10 fs)) ∧ rMet mX10_sign 0 0 0 [.ref x0] w (rIs (some (.int r0)) w) := by
  unfold J_X10_sign at h
  obtain ⟨hrc, h⟩ := rRc_some h
  refine ⟨hrc, ?_⟩
  refine rMet_of (by decide) rfl ?_
  refine rv_aload_n 0 dX10_sign_0 rfl ?_
  refine rv_getI ff_X10_200 dX10_sign_1 h (fun v1 h => ?_)
  refine rv_aload_n 0 dX10_sign_4 rfl ?_
  refine rv_getI ff_X10_197 dX10_sign_5 h (fun v2 h => ?_)
  refine rv_icmp_ge 23 dX10_sign_8 (by decide) (fun c3 => ?_) (fun c3 => ?_)
  · replace h := rIfT h c3
    refine rv_iconst (v := (-1)) dX10_sign_23 (by decide) ?_
    exact rv_iret .int dX10_sign_24 rfl rfl (rRetIp h)
  · replace h := rIfF h c3
    refine rv_aload_n 0 dX10_sign_11 rfl ?_
    refine rv_getR ff_X10_55 dX10_sign_12 h (fun a4 h => ?_)
    refine rv_aload_n 0 dX10_sign_15 rfl ?_
    refine rv_getI ff_X10_200 dX10_sign_16 h (fun v5 h => ?_)
    refine rv_iaload dX10_sign_19 h (fun v6 h => ?_)
    refine rv_goto 24 dX10_sign_20 (by decide) ?_
    exact rv_iret .int dX10_sign_24 rfl rfl (rRetIp h)
set_option maxRecDepth 20000 in
theorem E_X10_word_2 {r0 : Bool} {w0 : rW}  (x0 : Nat) (x1 : UInt32)   : ∀ (f : Nat) (x2 : Int32) (w : rW), J_X10_word_2 x0 x1 f x2 w = some (r0, w0) → rEv mX10_word 4 0 0 2 [(0, .ref x0), (1, .float x1), (2, .int x2)] [] w (rIs (some (.int (bi r0))) w0) := by
  intro f
  induction f with
  | zero =>
    intro x2 w h
    exact absurd (show (none : Option (Bool × rW)) = some (r0, w0) from h) (by simp)
  | succ f ih =>
    intro x2 w h
    rw [J_X10_word_2] at h
    refine rv_iload_n 2 dX10_word_2 rfl ?_
    refine rv_aload_nT 1 dX10_word_3 rfl ?_
    obtain ⟨v1, h2, h⟩ := rBind h
    refine rv_callTr (k3 := 0) (n3 := 0) caJ0_length_8abf5 cvJ0_length_8abf5 ml_X10_203 dX10_word_4 rfl (E_length w h2) (tLen_some h2).1 rfl rfl rfl rfl rfl ?_
    clear h2
    refine rv_icmp_ge 40 dX10_word_7 (by decide) (fun c3 => ?_) (fun c3 => ?_)
    · replace h := rIfT h c3
      refine rv_iconst (v := 1) dX10_word_40 (by decide) ?_
      exact rv_iret .boolean dX10_word_41 rfl (by decide) (rRetZw (x := 1) h rfl)
    · replace h := rIfF h c3
      refine rv_aload_n 0 dX10_word_10 rfl ?_
      obtain ⟨v5, h4, h⟩ := rBind h
      refine rv_callVr (k3 := 0) (n3 := 0) (st2 := []) caX10_sign cvX10_sign ml_X10_208 dX10_word_11 rfl (E_X10_sign h4).2 (E_X10_sign h4).1 rfl rfl rfl rfl rfl ?_
      clear h4
      refine rv_aload_nT 1 dX10_word_14 rfl ?_
      refine rv_iload_n 2 dX10_word_15 rfl ?_
      obtain ⟨v6, h7, h⟩ := rBind h
      refine rv_callTr (k3 := 0) (n3 := 0) caJ0_charAt_5068e cvJ0_charAt_5068e ml_X10_211 dX10_word_16 rfl (E_charAt w h7) (tChr_some h7).1 rfl rfl rfl rfl rfl ?_
      clear h7
      refine rv_icmp_eq 24 dX10_word_19 (by decide) (fun c8 => ?_) (fun c8 => ?_)
      · replace h := rIfT h c8
        refine rv_aload_n 0 dX10_word_24 rfl ?_
        refine rv_dup dX10_word_25 rfl ?_
        refine rv_getI ff_X10_200 dX10_word_26 h (fun v9 h => ?_)
        refine rv_iconst (v := 1) dX10_word_29 (by decide) ?_
        refine rv_iadd dX10_word_30 ?_
        refine rv_putI ff_X10_200 (fp_X10_20 _) dX10_word_31 h (fun w10 h => ?_)
        obtain ⟨v11, ev11, h⟩ := rLetE h
        refine rv_iinc (v := v11) (l2 := [(2, .int v11), (0, .ref x0), (1, .float x1)]) 2 dX10_word_34 rfl (by rw [ev11]; rfl) rfl rfl ?_
        clear ev11
        refine rv_goto 2 dX10_word_37 (by decide) ?_
        exact rv_sub [1, 2, 0] rfl (ih v11 w10 h)
      · replace h := rIfF h c8
        refine rv_iconst (v := 0) dX10_word_22 (by decide) ?_
        exact rv_iret .boolean dX10_word_23 rfl (by decide) (rRetZw (x := 0) h rfl)
set_option maxRecDepth 20000 in
theorem E_X10_word {x0 : Nat} {x1 : UInt32} {r0 : Bool} {w0 : rW} {w : rW} (h : J_X10_word x0 x1 w = some (r0, w0)) : (∃ fs, w[x0]? = some (cO 10 fs)) ∧ rMet mX10_word 4 0 0 [.ref x0, .float x1] w (rIs (some (.int (bi r0))) w0) := by
  unfold J_X10_word at h
  obtain ⟨hrc, h⟩ := rRc_some h
  refine ⟨hrc, ?_⟩
  refine rMet_of (by decide) rfl ?_
  refine rv_iconst (v := 0) dX10_word_0 (by decide) ?_
  refine rv_istore_n (l2 := [(2, .int 0), (0, .ref x0), (1, .float x1)]) dX10_word_1 rfl rfl ?_
  exact rv_sub [1, 2, 0] rfl (E_X10_word_2 x0 x1 2000 0 w h)
set_option maxRecDepth 20000 in
theorem E_X10_what {x0 : Nat} {r0 : Int32} {w0 : rW} {w : rW} (h : J_X10_what x0 w = some (r0, w0)) : (∃ fs, w[x0]? = some (cO 10 fs)) ∧ rMet mX10_what 5 0 0 [.ref x0] w (rIs (some (.int r0)) w0) := by
  unfold J_X10_what at h
  obtain ⟨hrc, h⟩ := rRc_some h
  refine ⟨hrc, ?_⟩
  refine rMet_of (by decide) rfl ?_
  refine rv_aload_n 0 dX10_what_0 rfl ?_
  obtain ⟨v2, h1, h⟩ := rBind h
  refine rv_callVr (k3 := 0) (n3 := 0) (st2 := []) caX10_sign cvX10_sign ml_X10_208 dX10_what_1 rfl (E_X10_sign h1).2 (E_X10_sign h1).1 rfl rfl rfl rfl rfl ?_
  clear h1
  refine rIf h (fun c3 h => ?_) (fun c3 h => ?_)
  · refine rv_tswIn 141 dX10_what_4 c3 (by decide) (by decide) rfl (by decide) ?_
    refine rv_aload_n 0 dX10_what_141 rfl ?_
    refine rv_ldcT (tx := "count") 1 (by decide +kernel) dX10_what_142 ?_
    obtain ⟨b5, w6, h4, h⟩ := rB2_some h
    refine rv_callVr (k3 := 0) (n3 := 0) (st2 := []) caX10_word cvX10_word ml_X10_217 dX10_what_144 rfl (E_X10_word h4).2 (E_X10_word h4).1 rfl rfl rfl rfl rfl ?_
    clear h4
    refine rv_if_eq 154 dX10_what_147 (by decide) (fun c7 => ?_) (fun c7 => ?_)
    · replace h := rIfT h c7
      refine rv_iconst (v := (-1)) dX10_what_154 (by decide) ?_
      exact rv_iret .int dX10_what_155 rfl rfl (rRetIw h)
    · replace h := rIfF h c7
      refine rv_iconst (v := 1) dX10_what_150 (by decide) ?_
      refine rv_goto 155 dX10_what_151 (by decide) ?_
      exact rv_iret .int dX10_what_155 rfl rfl (rRetIw h)
  refine rIf h (fun c8 h => ?_) (fun c8 h => ?_)
  · refine rv_tswIn 236 dX10_what_4 c8 (by decide) (by decide) rfl (by decide) ?_
    refine rv_aload_n 0 dX10_what_236 rfl ?_
    refine rv_ldcT (tx := "differ") 7 (by decide +kernel) dX10_what_237 ?_
    obtain ⟨b10, w11, h9, h⟩ := rB2_some h
    refine rv_callVr (k3 := 0) (n3 := 0) (st2 := []) caX10_word cvX10_word ml_X10_217 dX10_what_239 rfl (E_X10_word h9).2 (E_X10_word h9).1 rfl rfl rfl rfl rfl ?_
    clear h9
    refine rv_if_eq 250 dX10_what_242 (by decide) (fun c12 => ?_) (fun c12 => ?_)
    · replace h := rIfT h c12
      refine rv_iconst (v := (-1)) dX10_what_250 (by decide) ?_
      exact rv_iret .int dX10_what_251 rfl rfl (rRetIw h)
    · replace h := rIfF h c12
      refine rv_bipush (v := 7) dX10_what_245 (by decide) ?_
      refine rv_goto 251 dX10_what_247 (by decide) ?_
      exact rv_iret .int dX10_what_251 rfl rfl (rRetIw h)
  refine rIf h (fun c13 h => ?_) (fun c13 h => ?_)
  · refine rv_tswIn 220 dX10_what_4 c13 (by decide) (by decide) rfl (by decide) ?_
    refine rv_aload_n 0 dX10_what_220 rfl ?_
    refine rv_ldcT (tx := "keep") 6 (by decide +kernel) dX10_what_221 ?_
    obtain ⟨b15, w16, h14, h⟩ := rB2_some h
    refine rv_callVr (k3 := 0) (n3 := 0) (st2 := []) caX10_word cvX10_word ml_X10_217 dX10_what_223 rfl (E_X10_word h14).2 (E_X10_word h14).1 rfl rfl rfl rfl rfl ?_
    clear h14
    refine rv_if_eq 234 dX10_what_226 (by decide) (fun c17 => ?_) (fun c17 => ?_)
    · replace h := rIfT h c17
      refine rv_iconst (v := (-1)) dX10_what_234 (by decide) ?_
      exact rv_iret .int dX10_what_235 rfl rfl (rRetIw h)
    · replace h := rIfF h c17
      refine rv_bipush (v := 6) dX10_what_229 (by decide) ?_
      refine rv_goto 235 dX10_what_231 (by decide) ?_
      exact rv_iret .int dX10_what_235 rfl rfl (rRetIw h)
  refine rIf h (fun c18 h => ?_) (fun c18 h => ?_)
  · refine rv_tswIn 205 dX10_what_4 c18 (by decide) (by decide) rfl (by decide) ?_
    refine rv_aload_n 0 dX10_what_205 rfl ?_
    refine rv_ldcT (tx := "put") 3 (by decide +kernel) dX10_what_206 ?_
    obtain ⟨b20, w21, h19, h⟩ := rB2_some h
    refine rv_callVr (k3 := 0) (n3 := 0) (st2 := []) caX10_word cvX10_word ml_X10_217 dX10_what_208 rfl (E_X10_word h19).2 (E_X10_word h19).1 rfl rfl rfl rfl rfl ?_
    clear h19
    refine rv_if_eq 218 dX10_what_211 (by decide) (fun c22 => ?_) (fun c22 => ?_)
    · replace h := rIfT h c22
      refine rv_iconst (v := (-1)) dX10_what_218 (by decide) ?_
      exact rv_iret .int dX10_what_219 rfl rfl (rRetIw h)
    · replace h := rIfF h c22
      refine rv_iconst (v := 3) dX10_what_214 (by decide) ?_
      refine rv_goto 219 dX10_what_215 (by decide) ?_
      exact rv_iret .int dX10_what_219 rfl rfl (rRetIw h)
  refine rIf h (fun c23 h => ?_) (fun c23 h => ?_)
  · refine rv_tswIn 92 dX10_what_4 c23 (by decide) (by decide) rfl (by decide) ?_
    refine rv_aload_n 0 dX10_what_92 rfl ?_
    refine rv_dup dX10_what_93 rfl ?_
    refine rv_getI ff_X10_200 dX10_what_94 h (fun v24 h => ?_)
    refine rv_iconst (v := 1) dX10_what_97 (by decide) ?_
    refine rv_iadd dX10_what_98 ?_
    refine rv_putI ff_X10_200 (fp_X10_20 _) dX10_what_99 h (fun w25 h => ?_)
    refine rv_aload_n 0 dX10_what_102 rfl ?_
    obtain ⟨v27, h26, h⟩ := rBind h
    refine rv_callVr (k3 := 0) (n3 := 0) (st2 := []) caX10_sign cvX10_sign ml_X10_208 dX10_what_103 rfl (E_X10_sign h26).2 (E_X10_sign h26).1 rfl rfl rfl rfl rfl ?_
    clear h26
    refine rv_bipush (v := 119) dX10_what_106 (by decide) ?_
    refine rv_icmp_ne 126 dX10_what_108 (by decide) (fun c28 => ?_) (fun c28 => ?_)
    · replace h := rIfF h c28
      refine rv_aload_n 0 dX10_what_126 rfl ?_
      refine rv_ldcT (tx := "ize") 9 (by decide +kernel) dX10_what_127 ?_
      obtain ⟨b30, w31, h29, h⟩ := rB2_some h
      refine rv_callVr (k3 := 0) (n3 := 0) (st2 := []) caX10_word cvX10_word ml_X10_217 dX10_what_129 rfl (E_X10_word h29).2 (E_X10_word h29).1 rfl rfl rfl rfl rfl ?_
      clear h29
      refine rv_if_eq 139 dX10_what_132 (by decide) (fun c32 => ?_) (fun c32 => ?_)
      · replace h := rIfT h c32
        refine rv_iconst (v := (-1)) dX10_what_139 (by decide) ?_
        exact rv_iret .int dX10_what_140 rfl rfl (rRetIw h)
      · replace h := rIfF h c32
        refine rv_iconst (v := 0) dX10_what_135 (by decide) ?_
        refine rv_goto 140 dX10_what_136 (by decide) ?_
        exact rv_iret .int dX10_what_140 rfl rfl (rRetIw h)
    · replace h := rIfT h c28
      refine rv_aload_n 0 dX10_what_111 rfl ?_
      refine rv_ldcT (tx := "wap") 8 (by decide +kernel) dX10_what_112 ?_
      obtain ⟨b34, w35, h33, h⟩ := rB2_some h
      refine rv_callVr (k3 := 0) (n3 := 0) (st2 := []) caX10_word cvX10_word ml_X10_217 dX10_what_114 rfl (E_X10_word h33).2 (E_X10_word h33).1 rfl rfl rfl rfl rfl ?_
      clear h33
      refine rv_if_eq 124 dX10_what_117 (by decide) (fun c36 => ?_) (fun c36 => ?_)
      · replace h := rIfT h c36
        refine rv_iconst (v := (-1)) dX10_what_124 (by decide) ?_
        exact rv_iret .int dX10_what_125 rfl rfl (rRetIw h)
      · replace h := rIfF h c36
        refine rv_iconst (v := 5) dX10_what_120 (by decide) ?_
        refine rv_goto 125 dX10_what_121 (by decide) ?_
        exact rv_iret .int dX10_what_125 rfl rfl (rRetIw h)
  refine rIf h (fun c37 h => ?_) (fun c37 h => ?_)
  · refine rv_tswIn 156 dX10_what_4 c37 (by decide) (by decide) rfl (by decide) ?_
    refine rv_aload_n 0 dX10_what_156 rfl ?_
    refine rv_dup dX10_what_157 rfl ?_
    refine rv_getI ff_X10_200 dX10_what_158 h (fun v38 h => ?_)
    refine rv_iconst (v := 1) dX10_what_161 (by decide) ?_
    refine rv_iadd dX10_what_162 ?_
    refine rv_putI ff_X10_200 (fp_X10_20 _) dX10_what_163 h (fun w39 h => ?_)
    refine rv_aload_n 0 dX10_what_166 rfl ?_
    obtain ⟨v41, h40, h⟩ := rBind h
    refine rv_callVr (k3 := 0) (n3 := 0) (st2 := []) caX10_sign cvX10_sign ml_X10_208 dX10_what_167 rfl (E_X10_sign h40).2 (E_X10_sign h40).1 rfl rfl rfl rfl rfl ?_
    clear h40
    refine rv_bipush (v := 119) dX10_what_170 (by decide) ?_
    refine rv_icmp_ne 190 dX10_what_172 (by decide) (fun c42 => ?_) (fun c42 => ?_)
    · replace h := rIfF h c42
      refine rv_aload_n 0 dX10_what_190 rfl ?_
      refine rv_ldcT (tx := "urn") 11 (by decide +kernel) dX10_what_191 ?_
      obtain ⟨b44, w45, h43, h⟩ := rB2_some h
      refine rv_callVr (k3 := 0) (n3 := 0) (st2 := []) caX10_word cvX10_word ml_X10_217 dX10_what_193 rfl (E_X10_word h43).2 (E_X10_word h43).1 rfl rfl rfl rfl rfl ?_
      clear h43
      refine rv_if_eq 203 dX10_what_196 (by decide) (fun c46 => ?_) (fun c46 => ?_)
      · replace h := rIfT h c46
        refine rv_iconst (v := (-1)) dX10_what_203 (by decide) ?_
        exact rv_iret .int dX10_what_204 rfl rfl (rRetIw h)
      · replace h := rIfF h c46
        refine rv_iconst (v := 4) dX10_what_199 (by decide) ?_
        refine rv_goto 204 dX10_what_200 (by decide) ?_
        exact rv_iret .int dX10_what_204 rfl rfl (rRetIw h)
    · replace h := rIfT h c42
      refine rv_aload_n 0 dX10_what_175 rfl ?_
      refine rv_ldcT (tx := "wist") 10 (by decide +kernel) dX10_what_176 ?_
      obtain ⟨b48, w49, h47, h⟩ := rB2_some h
      refine rv_callVr (k3 := 0) (n3 := 0) (st2 := []) caX10_word cvX10_word ml_X10_217 dX10_what_178 rfl (E_X10_word h47).2 (E_X10_word h47).1 rfl rfl rfl rfl rfl ?_
      clear h47
      refine rv_if_eq 188 dX10_what_181 (by decide) (fun c50 => ?_) (fun c50 => ?_)
      · replace h := rIfT h c50
        refine rv_iconst (v := (-1)) dX10_what_188 (by decide) ?_
        exact rv_iret .int dX10_what_189 rfl rfl (rRetIw h)
      · replace h := rIfF h c50
        refine rv_iconst (v := 2) dX10_what_184 (by decide) ?_
        refine rv_goto 189 dX10_what_185 (by decide) ?_
        exact rv_iret .int dX10_what_189 rfl rfl (rRetIw h)
  refine rv_tswOut 252 [99, 100, 107, 112, 115, 116] dX10_what_4 (by decide) (by decide) (by decide) (fun v hv => ?_) ?_
  · simp only [List.mem_cons, List.not_mem_nil, or_false] at hv
    rcases hv with rfl | rfl | rfl | rfl | rfl | rfl
    · exact c3
    · exact c8
    · exact c13
    · exact c18
    · exact c23
    · exact c37
  refine rv_iconst (v := (-1)) dX10_what_252 (by decide) ?_
  exact rv_iret .int dX10_what_253 rfl rfl (rRetIw h)
set_option maxRecDepth 20000 in
theorem E_X10_numbersOf {x0 : Int32} {r0 : Int32} {w : rW} (h : J_X10_numbersOf x0 w = some r0) : rMet mX10_numbersOf 0 0 0 [.int x0] w (rIs (some (.int r0)) w) := by
  unfold J_X10_numbersOf at h
  refine rMet_of (by decide) rfl ?_
  refine rv_iload_n 0 dX10_numbersOf_0 rfl ?_
  refine rv_if_ne 8 dX10_numbersOf_1 (by decide) (fun c1 => ?_) (fun c1 => ?_)
  · replace h := rIfF h c1
    refine rv_iload_n 0 dX10_numbersOf_8 rfl ?_
    refine rv_iconst (v := 3) dX10_numbersOf_9 (by decide) ?_
    refine rv_icmp_ge 17 dX10_numbersOf_10 (by decide) (fun c2 => ?_) (fun c2 => ?_)
    · replace h := rIfT h c2
      refine rv_iload_n 0 dX10_numbersOf_17 rfl ?_
      refine rv_iconst (v := 3) dX10_numbersOf_18 (by decide) ?_
      refine rv_icmp_ne 26 dX10_numbersOf_19 (by decide) (fun c3 => ?_) (fun c3 => ?_)
      · replace h := rIfF h c3
        refine rv_iconst (v := 0) dX10_numbersOf_26 (by decide) ?_
        exact rv_iret .int dX10_numbersOf_27 rfl rfl (rRetIp h)
      · replace h := rIfT h c3
        refine rv_iconst (v := 1) dX10_numbersOf_22 (by decide) ?_
        refine rv_goto 27 dX10_numbersOf_23 (by decide) ?_
        exact rv_iret .int dX10_numbersOf_27 rfl rfl (rRetIp h)
    · replace h := rIfF h c2
      refine rv_iconst (v := 2) dX10_numbersOf_13 (by decide) ?_
      refine rv_goto 27 dX10_numbersOf_14 (by decide) ?_
      exact rv_iret .int dX10_numbersOf_27 rfl rfl (rRetIp h)
  · replace h := rIfT h c1
    refine rv_iconst (v := 3) dX10_numbersOf_4 (by decide) ?_
    refine rv_goto 27 dX10_numbersOf_5 (by decide) ?_
    exact rv_iret .int dX10_numbersOf_27 rfl rfl (rRetIp h)
set_option maxRecDepth 20000 in
theorem E_X10_numeral_55 {r0 : Bool} {w0 : rW}  (x0 : Nat) (x1 : Int32) (x2 : Int32)  {K109 : Int32 → Int32 → rW → Option (Bool × rW)} (hK109 : ∀ (y3 : Int32) (y4 : Int32) (w : rW), K109 y3 y4 w = some (r0, w0) → rEv mX10_numeral 1 0 0 109 [(0, .ref x0), (1, .int x1), (2, .int x2), (3, .int y3), (4, .int y4)] [] w (rIs (some (.int (bi r0))) w0)) : ∀ (f : Nat) (x3 : Int32) (x4 : Int32) (w : rW), J_X10_numeral_55 x0 K109 f x3 x4 w = some (r0, w0) → rEv mX10_numeral 1 0 0 55 [(0, .ref x0), (1, .int x1), (2, .int x2), (3, .int x3), (4, .int x4)] [] w (rIs (some (.int (bi r0))) w0) := by
  intro f
  induction f with
  | zero =>
    intro x3 x4 w h
    exact absurd (show (none : Option (Bool × rW)) = some (r0, w0) from h) (by simp)
  | succ f ih =>
    intro x3 x4 w h
    rw [J_X10_numeral_55] at h
    refine rv_iload_n 3 dX10_numeral_55 rfl ?_
    refine rv_bipush (v := 6) dX10_numeral_56 (by decide) ?_
    refine rv_icmp_ge 109 dX10_numeral_58 (by decide) (fun c20 => ?_) (fun c20 => ?_)
    · replace h := rIfT h c20
      exact rv_sub [0, 1, 2, 3, 4] rfl (hK109 x3 x4 w h)
    · replace h := rIfF h c20
      refine rv_aload_n 0 dX10_numeral_61 rfl ?_
      obtain ⟨v22, h21, h⟩ := rBind h
      refine rv_callVr (k3 := 0) (n3 := 0) (st2 := []) caX10_sign cvX10_sign ml_X10_208 dX10_numeral_62 rfl (E_X10_sign h21).2 (E_X10_sign h21).1 rfl rfl rfl rfl rfl ?_
      clear h21
      refine rv_i2l dX10_numeral_65 ?_
      refine rv_ldc2 dX10_numeral_66 kl_X10_235 ?_
      refine rv_ldc2 dX10_numeral_69 kl_X10_237 ?_
      obtain ⟨b24, h23, h⟩ := rBind h
      refine rv_callSr (k3 := 0) (n3 := 0) (st2 := []) (As := [.long (Int32.toInt64 v22), .long 48, .long 57]) caX10_in csX10_in ml_X10_116 dX10_numeral_72 rfl (E_X10_in h23) rfl rfl rfl rfl rfl ?_
      clear h23
      refine rv_if_eq 109 dX10_numeral_75 (by decide) (fun c25 => ?_) (fun c25 => ?_)
      · replace h := rIfT h c25
        exact rv_sub [0, 1, 2, 3, 4] rfl (hK109 x3 x4 w h)
      · replace h := rIfF h c25
        refine rv_bipush (v := 10) dX10_numeral_78 (by decide) ?_
        refine rv_iload 4 dX10_numeral_80 rfl ?_
        refine rv_imul dX10_numeral_82 ?_
        refine rv_aload_n 0 dX10_numeral_83 rfl ?_
        obtain ⟨v27, h26, h⟩ := rBind h
        refine rv_callVr (k3 := 0) (n3 := 0) (st2 := [.int (10 * x4)]) caX10_sign cvX10_sign ml_X10_208 dX10_numeral_84 rfl (E_X10_sign h26).2 (E_X10_sign h26).1 rfl rfl rfl rfl rfl ?_
        clear h26
        refine rv_iadd dX10_numeral_87 ?_
        refine rv_bipush (v := 48) dX10_numeral_88 (by decide) ?_
        refine rv_isub dX10_numeral_90 ?_
        refine rv_letI h (fun v28 h => ?_)
        refine rv_istore (l2 := [(4, .int v28), (0, .ref x0), (1, .int x1), (2, .int x2), (3, .int x3)]) dX10_numeral_91 rfl rfl ?_
        refine rv_aload_n 1 dX10_numeral_93 rfl ?_
        refine rv_dup dX10_numeral_94 rfl ?_
        refine rv_getI ff_X10_200 dX10_numeral_95 h (fun v29 h => ?_)
        refine rv_iconst (v := 1) dX10_numeral_98 (by decide) ?_
        refine rv_iadd dX10_numeral_99 ?_
        refine rv_putI ff_X10_200 (fp_X10_20 _) dX10_numeral_100 h (fun w30 h => ?_)
        obtain ⟨v31, ev31, h⟩ := rLetE h
        refine rv_iinc (v := v31) (l2 := [(3, .int v31), (4, .int v28), (0, .ref x0), (1, .int x1), (2, .int x2)]) 4 dX10_numeral_103 rfl (by rw [ev31]; rfl) rfl rfl ?_
        clear ev31
        refine rv_goto 55 dX10_numeral_106 (by decide) ?_
        exact rv_sub [2, 3, 4, 0, 1] rfl (ih v31 v28 w30 h)
set_option maxRecDepth 20000 in
theorem E_X10_numeral {x0 : Nat} {x1 : Int32} {r0 : Bool} {w0 : rW} {w : rW} (h : J_X10_numeral x0 x1 w = some (r0, w0)) : (∃ fs, w[x0]? = some (cO 10 fs)) ∧ rMet mX10_numeral 1 0 0 [.ref x0, .int x1] w (rIs (some (.int (bi r0))) w0) := by
  unfold J_X10_numeral at h
  obtain ⟨hrc, h⟩ := rRc_some h
  refine ⟨hrc, ?_⟩
  refine rMet_of (by decide) rfl ?_
  refine rv_aload_n 0 dX10_numeral_0 rfl ?_
  obtain ⟨v2, h1, h⟩ := rBind h
  refine rv_callVr (k3 := 0) (n3 := 0) (st2 := []) caX10_sign cvX10_sign ml_X10_208 dX10_numeral_1 rfl (E_X10_sign h1).2 (E_X10_sign h1).1 rfl rfl rfl rfl rfl ?_
  clear h1
  refine rv_bipush (v := 32) dX10_numeral_4 (by decide) ?_
  refine rv_icmp_eq 11 dX10_numeral_6 (by decide) (fun c3 => ?_) (fun c3 => ?_)
  · replace h := rIfT h c3
    refine rv_aload_n 0 dX10_numeral_11 rfl ?_
    refine rv_dup dX10_numeral_12 rfl ?_
    refine rv_getI ff_X10_200 dX10_numeral_13 h (fun v4 h => ?_)
    refine rv_iconst (v := 1) dX10_numeral_16 (by decide) ?_
    refine rv_iadd dX10_numeral_17 ?_
    refine rv_putI ff_X10_200 (fp_X10_20 _) dX10_numeral_18 h (fun w5 h => ?_)
    refine rv_aload_n 0 dX10_numeral_21 rfl ?_
    obtain ⟨v7, h6, h⟩ := rBind h
    refine rv_callVr (k3 := 0) (n3 := 0) (st2 := []) caX10_sign cvX10_sign ml_X10_208 dX10_numeral_22 rfl (E_X10_sign h6).2 (E_X10_sign h6).1 rfl rfl rfl rfl rfl ?_
    clear h6
    refine rv_bipush (v := 45) dX10_numeral_25 (by decide) ?_
    obtain ⟨K35, eK35, h⟩ := rLetE h
    have hK35 : ∀ (z0 : Int32), K35 z0 = some (r0, w0) → rEv mX10_numeral 1 0 0 35 [(0, .ref x0), (1, .int x1)] [.int z0] w5 (rIs (some (.int (bi r0))) w0) := by
      intro z8 h
      rw [eK35] at h
      refine rv_istore_n (l2 := [(2, .int z8), (0, .ref x0), (1, .int x1)]) dX10_numeral_35 rfl rfl ?_
      refine rv_iload_n 0 dX10_numeral_36 rfl ?_
      obtain ⟨K50, eK50, h⟩ := rLetE h
      have hK50 : ∀ (w : rW), K50 w = some (r0, w0) → rEv mX10_numeral 1 0 0 50 [(0, .ref x0), (1, .int x1), (2, .int z8)] [] w (rIs (some (.int (bi r0))) w0) := by
        intro w9 h
        rw [eK50] at h
        refine rv_iconst (v := 0) dX10_numeral_50 (by decide) ?_
        refine rv_istore_n (l2 := [(3, .int 0), (0, .ref x0), (1, .int x1), (2, .int z8)]) dX10_numeral_51 rfl rfl ?_
        refine rv_iconst (v := 0) dX10_numeral_52 (by decide) ?_
        refine rv_istore (l2 := [(4, .int 0), (3, .int 0), (0, .ref x0), (1, .int x1), (2, .int z8)]) dX10_numeral_53 rfl rfl ?_
        obtain ⟨K109, eK109, h⟩ := rLetE h
        have hK109 : ∀ (y3 : Int32) (y4 : Int32) (w : rW), K109 y3 y4 w = some (r0, w0) → rEv mX10_numeral 1 0 0 109 [(0, .ref x0), (1, .int x1), (2, .int z8), (3, .int y3), (4, .int y4)] [] w (rIs (some (.int (bi r0))) w0) := by
          intro x3_10 x4_11 w12 h
          rw [eK109] at h
          refine rv_aload_n 0 dX10_numeral_109 rfl ?_
          refine rv_getR ff_X10_61 dX10_numeral_110 h (fun a13 h => ?_)
          refine rv_iload_n 1 dX10_numeral_113 rfl ?_
          refine rv_iload_n 2 dX10_numeral_114 rfl ?_
          obtain ⟨K126, eK126, h⟩ := rLetE h
          have hK126 : ∀ (z0 : Nat) (z1 : Int32) (z2 : Int32), K126 z0 z1 z2 = some (r0, w0) → rEv mX10_numeral 1 0 0 126 [(3, .int x3_10)] [.int z2, .int z1, .ref z0] w12 (rIs (some (.int (bi r0))) w0) := by
            intro z14 z15 z16 h
            rw [eK126] at h
            refine rv_iastore dX10_numeral_126 h (fun w17 h => ?_)
            refine rv_iload_n 0 dX10_numeral_127 rfl ?_
            refine rv_if_le 135 dX10_numeral_128 (by decide) (fun c18 => ?_) (fun c18 => ?_)
            · replace h := rIfT h c18
              refine rv_iconst (v := 0) dX10_numeral_135 (by decide) ?_
              exact rv_iret .boolean dX10_numeral_136 rfl (by decide) (rRetZw (x := 0) h rfl)
            · replace h := rIfF h c18
              refine rv_iconst (v := 1) dX10_numeral_131 (by decide) ?_
              refine rv_goto 136 dX10_numeral_132 (by decide) ?_
              exact rv_iret .boolean dX10_numeral_136 rfl (by decide) (rRetZw (x := 1) h rfl)
          clear eK126
          refine rv_if_eq 124 dX10_numeral_115 (by decide) (fun c19 => ?_) (fun c19 => ?_)
          · replace h := rIfT h c19
            refine rv_iload 4 dX10_numeral_124 rfl ?_
            exact rv_sub [3] rfl (hK126 a13 x1 x4_11 h)
          · replace h := rIfF h c19
            refine rv_iload 4 dX10_numeral_118 rfl ?_
            refine rv_ineg dX10_numeral_120 ?_
            refine rv_goto 126 dX10_numeral_121 (by decide) ?_
            exact rv_sub [3] rfl (hK126 a13 x1 (-x4_11) h)
        clear eK109
        exact rv_sub [2, 3, 4, 1, 0] rfl (E_X10_numeral_55 x0 x1 z8 hK109 2000 0 0 w9 h)
      clear eK50
      refine rv_if_eq 50 dX10_numeral_37 (by decide) (fun c32 => ?_) (fun c32 => ?_)
      · replace h := rIfT h c32
        exact rv_sub [1, 2, 0] rfl (hK50 w5 h)
      · replace h := rIfF h c32
        refine rv_aload_n 1 dX10_numeral_40 rfl ?_
        refine rv_dup dX10_numeral_41 rfl ?_
        refine rv_getI ff_X10_200 dX10_numeral_42 h (fun v33 h => ?_)
        refine rv_iconst (v := 1) dX10_numeral_45 (by decide) ?_
        refine rv_iadd dX10_numeral_46 ?_
        refine rv_putI ff_X10_200 (fp_X10_20 _) dX10_numeral_47 h (fun w34 h => ?_)
        exact rv_sub [1, 2, 0] rfl (hK50 w34 h)
    clear eK35
    refine rv_icmp_ne 34 dX10_numeral_27 (by decide) (fun c35 => ?_) (fun c35 => ?_)
    · replace h := rIfF h c35
      refine rv_iconst (v := 0) dX10_numeral_34 (by decide) ?_
      exact rv_sub [0, 1] rfl (hK35 0 h)
    · replace h := rIfT h c35
      refine rv_iconst (v := 1) dX10_numeral_30 (by decide) ?_
      refine rv_goto 35 dX10_numeral_31 (by decide) ?_
      exact rv_sub [0, 1] rfl (hK35 1 h)
  · replace h := rIfF h c3
    refine rv_iconst (v := 0) dX10_numeral_9 (by decide) ?_
    exact rv_iret .boolean dX10_numeral_10 rfl (by decide) (rRetZw (x := 0) h rfl)
set_option maxRecDepth 20000 in
theorem E_X10_reads_33 {r0 : Bool} {w0 : rW}  (x0 : Nat) (x1 : Int32)  {K64 : rW → Option (Bool × rW)} (hK64 : ∀ (w : rW), K64 w = some (r0, w0) → rEv mX10_reads 6 0 0 64 [(0, .ref x0)] [] w (rIs (some (.int (bi r0))) w0)) : ∀ (f : Nat) (x2 : Int32) (w : rW), J_X10_reads_33 x0 x1 K64 f x2 w = some (r0, w0) → rEv mX10_reads 6 0 0 33 [(0, .ref x0), (1, .int x1), (2, .int x2)] [] w (rIs (some (.int (bi r0))) w0) := by
  intro f
  induction f with
  | zero =>
    intro x2 w h
    exact absurd (show (none : Option (Bool × rW)) = some (r0, w0) from h) (by simp)
  | succ f ih =>
    intro x2 w h
    rw [J_X10_reads_33] at h
    refine rv_iload_n 2 dX10_reads_33 rfl ?_
    refine rv_iload_n 1 dX10_reads_34 rfl ?_
    obtain ⟨v24, h23, h⟩ := rBind h
    refine rv_callSr (k3 := 0) (n3 := 0) (st2 := [.int x2]) (As := [.int x1]) caX10_numbersOf csX10_numbersOf ml_X10_245 dX10_reads_35 rfl (E_X10_numbersOf h23) rfl rfl rfl rfl rfl ?_
    clear h23
    refine rv_icmp_ge 64 dX10_reads_38 (by decide) (fun c25 => ?_) (fun c25 => ?_)
    · replace h := rIfT h c25
      exact rv_sub [0] rfl (hK64 w h)
    · replace h := rIfF h c25
      refine rv_aload_n 0 dX10_reads_41 rfl ?_
      refine rv_iconst (v := 3) dX10_reads_42 (by decide) ?_
      refine rv_aload_n 0 dX10_reads_43 rfl ?_
      refine rv_getI ff_X10_239 dX10_reads_44 h (fun v26 h => ?_)
      refine rv_imul dX10_reads_47 ?_
      refine rv_iload_n 2 dX10_reads_48 rfl ?_
      refine rv_iadd dX10_reads_49 ?_
      obtain ⟨b28, w29, h27, h⟩ := rB2_some h
      refine rv_callVr (k3 := 0) (n3 := 0) (st2 := []) caX10_numeral cvX10_numeral ml_X10_248 dX10_reads_50 rfl (E_X10_numeral h27).2 (E_X10_numeral h27).1 rfl rfl rfl rfl rfl ?_
      clear h27
      refine rv_if_ne 58 dX10_reads_53 (by decide) (fun c30 => ?_) (fun c30 => ?_)
      · replace h := rIfF h c30
        obtain ⟨v31, ev31, h⟩ := rLetE h
        refine rv_iinc (v := v31) (l2 := [(2, .int v31), (0, .ref x0), (1, .int x1)]) 2 dX10_reads_58 rfl (by rw [ev31]; rfl) rfl rfl ?_
        clear ev31
        refine rv_goto 33 dX10_reads_61 (by decide) ?_
        exact rv_sub [1, 2, 0] rfl (ih v31 w29 h)
      · replace h := rIfT h c30
        refine rv_iconst (v := 0) dX10_reads_56 (by decide) ?_
        exact rv_iret .boolean dX10_reads_57 rfl (by decide) (rRetZw (x := 0) h rfl)
set_option maxRecDepth 20000 in
theorem E_X10_reads_10 {r0 : Bool} {w0 : rW}  (x0 : Nat)   : ∀ (f : Nat)  (w : rW), J_X10_reads_10 x0 f w = some (r0, w0) → rEv mX10_reads 6 0 0 10 [(0, .ref x0)] [] w (rIs (some (.int (bi r0))) w0) := by
  intro f
  induction f with
  | zero =>
    intro w h
    exact absurd (show (none : Option (Bool × rW)) = some (r0, w0) from h) (by simp)
  | succ f ih =>
    intro w h
    rw [J_X10_reads_10] at h
    refine rv_aload_n 0 dX10_reads_10 rfl ?_
    obtain ⟨v4, w5, h3, h⟩ := rB2_some h
    refine rv_callVr (k3 := 0) (n3 := 0) (st2 := []) caX10_what cvX10_what ml_X10_242 dX10_reads_11 rfl (E_X10_what h3).2 (E_X10_what h3).1 rfl rfl rfl rfl rfl ?_
    clear h3
    refine rv_istore_n (l2 := [(1, .int v4), (0, .ref x0)]) dX10_reads_14 rfl rfl ?_
    refine rv_iload_n 0 dX10_reads_15 rfl ?_
    refine rv_if_ge 21 dX10_reads_16 (by decide) (fun c6 => ?_) (fun c6 => ?_)
    · replace h := rIfT h c6
      refine rv_aload_n 1 dX10_reads_21 rfl ?_
      refine rv_getR ff_X10_58 dX10_reads_22 h (fun a7 h => ?_)
      refine rv_aload_n 1 dX10_reads_25 rfl ?_
      refine rv_getI ff_X10_239 dX10_reads_26 h (fun v8 h => ?_)
      refine rv_iload_n 0 dX10_reads_29 rfl ?_
      refine rv_iastore dX10_reads_30 h (fun w9 h => ?_)
      refine rv_iconst (v := 0) dX10_reads_31 (by decide) ?_
      refine rv_istore_n (l2 := [(2, .int 0), (1, .int v4), (0, .ref x0)]) dX10_reads_32 rfl rfl ?_
      obtain ⟨K64, eK64, h⟩ := rLetE h
      have hK64 : ∀ (w : rW), K64 w = some (r0, w0) → rEv mX10_reads 6 0 0 64 [(0, .ref x0)] [] w (rIs (some (.int (bi r0))) w0) := by
        intro w10 h
        rw [eK64] at h
        refine rv_aload_n 0 dX10_reads_64 rfl ?_
        refine rv_dup dX10_reads_65 rfl ?_
        refine rv_getI ff_X10_239 dX10_reads_66 h (fun v11 h => ?_)
        refine rv_iconst (v := 1) dX10_reads_69 (by decide) ?_
        refine rv_iadd dX10_reads_70 ?_
        refine rv_putI ff_X10_239 (fp_X10_23 _) dX10_reads_71 h (fun w12 h => ?_)
        refine rv_aload_n 0 dX10_reads_74 rfl ?_
        refine rv_getI ff_X10_200 dX10_reads_75 h (fun v13 h => ?_)
        refine rv_aload_n 0 dX10_reads_78 rfl ?_
        refine rv_getI ff_X10_197 dX10_reads_79 h (fun v14 h => ?_)
        refine rv_icmp_ne 87 dX10_reads_82 (by decide) (fun c15 => ?_) (fun c15 => ?_)
        · replace h := rIfF h c15
          refine rv_aload_n 0 dX10_reads_87 rfl ?_
          obtain ⟨v17, h16, h⟩ := rBind h
          refine rv_callVr (k3 := 0) (n3 := 0) (st2 := []) caX10_sign cvX10_sign ml_X10_208 dX10_reads_88 rfl (E_X10_sign h16).2 (E_X10_sign h16).1 rfl rfl rfl rfl rfl ?_
          clear h16
          refine rv_bipush (v := 59) dX10_reads_91 (by decide) ?_
          refine rv_icmp_ne 105 dX10_reads_93 (by decide) (fun c18 => ?_) (fun c18 => ?_)
          · replace h := rIfF h c18
            refine rv_iconst (v := 0) dX10_reads_105 (by decide) ?_
            exact rv_iret .boolean dX10_reads_106 rfl (by decide) (rRetZw (x := 0) h rfl)
          · replace h := rIfT h c18
            refine rv_aload_n 0 dX10_reads_96 rfl ?_
            refine rv_getI ff_X10_239 dX10_reads_97 h (fun v19 h => ?_)
            refine rv_bipush (v := 12) dX10_reads_100 (by decide) ?_
            refine rv_icmp_ne 107 dX10_reads_102 (by decide) (fun c20 => ?_) (fun c20 => ?_)
            · replace h := rIfF h c20
              refine rv_aload_n 0 dX10_reads_107 rfl ?_
              refine rv_dup dX10_reads_108 rfl ?_
              refine rv_getI ff_X10_200 dX10_reads_109 h (fun v21 h => ?_)
              refine rv_iconst (v := 1) dX10_reads_112 (by decide) ?_
              refine rv_iadd dX10_reads_113 ?_
              refine rv_putI ff_X10_200 (fp_X10_20 _) dX10_reads_114 h (fun w22 h => ?_)
              refine rv_goto 10 dX10_reads_117 (by decide) ?_
              exact rv_sub [0] rfl (ih w22 h)
            · replace h := rIfT h c20
              refine rv_iconst (v := 0) dX10_reads_105 (by decide) ?_
              exact rv_iret .boolean dX10_reads_106 rfl (by decide) (rRetZw (x := 0) h rfl)
        · replace h := rIfT h c15
          refine rv_iconst (v := 1) dX10_reads_85 (by decide) ?_
          exact rv_iret .boolean dX10_reads_86 rfl (by decide) (rRetZw (x := 1) h rfl)
      clear eK64
      exact rv_sub [2, 1, 0] rfl (E_X10_reads_33 x0 v4 hK64 2000 0 w9 h)
    · replace h := rIfF h c6
      refine rv_iconst (v := 0) dX10_reads_19 (by decide) ?_
      exact rv_iret .boolean dX10_reads_20 rfl (by decide) (rRetZw (x := 0) h rfl)
set_option maxRecDepth 20000 in
theorem E_X10_reads {x0 : Nat} {r0 : Bool} {w0 : rW} {w : rW} (h : J_X10_reads x0 w = some (r0, w0)) : (∃ fs, w[x0]? = some (cO 10 fs)) ∧ rMet mX10_reads 6 0 0 [.ref x0] w (rIs (some (.int (bi r0))) w0) := by
  unfold J_X10_reads at h
  obtain ⟨hrc, h⟩ := rRc_some h
  refine ⟨hrc, ?_⟩
  refine rMet_of (by decide) rfl ?_
  refine rv_aload_n 0 dX10_reads_0 rfl ?_
  refine rv_iconst (v := 0) dX10_reads_1 (by decide) ?_
  refine rv_putI ff_X10_200 (fp_X10_20 _) dX10_reads_2 h (fun w1 h => ?_)
  refine rv_aload_n 0 dX10_reads_5 rfl ?_
  refine rv_iconst (v := 0) dX10_reads_6 (by decide) ?_
  refine rv_putI ff_X10_239 (fp_X10_23 _) dX10_reads_7 h (fun w2 h => ?_)
  exact rv_sub [0] rfl (E_X10_reads_10 x0 2000 w2 h)

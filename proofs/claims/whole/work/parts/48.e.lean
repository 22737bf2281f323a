/-! PARTINGS: the whole look -/
theorem jdiv_n {a b : Nat} (ha : a < 2 ^ 31) (hb : b < 2 ^ 31) (h : 0 < b) : jdiv (nI a) (nI b) = some (nI (a / b)) := by
  unfold jdiv
  rw [if_neg (nI_ne0 h hb), pk_div ha h hb]
def lkB (V K T : Nat) : Bool := decide (MB V K ≤ (if T + 1 = K then 20 else 10))
theorem lk_c {M c : Nat} (hM : M ≤ 56) (hc : c ≤ 100) : (if nI c < nI M then some false else some true) = some (decide (M ≤ c)) := by
  by_cases h : M ≤ c
  · rw [if_neg (Int32.not_lt.mpr (nI_le h (by omega))), decide_eq_true h]
  · rw [if_pos (nI_lt (by omega) (by omega)), decide_eq_false h]
theorem tk1 {K T : Nat} (hK : 2 ≤ K) (hK3 : K ≤ 3) (hT : T < K) : (nI T = nI K - 1) ↔ T + 1 = K := by
  rw [nI_prd (by omega)]
  refine ⟨fun q => ?_, fun q => congrArg nI (by omega)⟩
  have := nI_inj (by omega) (by omega) q
  omega
theorem isLook2 {S : rSt} {V K T : Nat} (hk : Ok3 V K T) (c1 : S.1 2 1 = nI K) (c2 : S.1 2 2 = nI T) (c3 : S.1 2 3 = nI (MB V K)) : J_X2_isLookedFor 2 (Wd S) = some (lkB V K T) := by
  have hM := MB_ok hk
  obtain ⟨k1, k2, k3, k4, k5, k6⟩ := hk
  have e := tk1 k3 k4 k6
  have e20 : (20 : Int32) = nI 20 := by decide
  have e10 : (10 : Int32) = nI 10 := by decide
  unfold J_X2_isLookedFor lkB
  rw [wf_2_3, bs, wf_2_2, bs, wf_2_1, bs, c1, c2, c3, rLet_eq]
  by_cases h : T + 1 = K
  · rw [if_pos (e.mpr h), if_pos h, e20]
    exact lk_c (by omega) (by decide)
  · rw [if_neg (fun q => h (e.mp q)), if_neg h, e10]
    exact lk_c (by omega) (by decide)
theorem isLook60 {S : rSt} {V K T : Nat} (hk : Ok3 V K T) (hS : mlS V K T S) : J_X10_isLookedFor 60 (Wd S) = some (lkB V K T) := by
  have hM := MB_ok hk
  obtain ⟨k1, k2, k3, k4, k5, k6⟩ := hk
  obtain ⟨m0, m1, m2, m3, mB⟩ := hS
  have e := tk1 k3 k4 k6
  have e20 : (20 : Int32) = nI 20 := by decide
  have e10 : (10 : Int32) = nI 10 := by decide
  unfold J_X10_isLookedFor lkB
  rw [wr_60, wf_60_3, bs, wf_60_2, bs, wf_60_1, bs, m1, m2, m3, rLet_eq]
  by_cases h : T + 1 = K
  · rw [if_pos (e.mpr h), if_pos h, e20]
    exact lk_c (by omega) (by decide)
  · rw [if_neg (fun q => h (e.mp q)), if_neg h, e10]
    exact lk_c (by omega) (by decide)
theorem isParts_e (x : Int32) (w : rW) : J_X2_isParts x w = some (inB x 2 6) := by
  unfold J_X2_isParts inB
  rw [rLet_eq]
  by_cases h : x < 2
  · rw [if_pos h, decide_eq_true h]
    rfl
  · rw [if_neg h, decide_eq_false h]
    by_cases g : 6 < x
    · rw [if_pos g, decide_eq_true g]
      rfl
    · rw [if_neg g, decide_eq_false g]
      rfl
theorem hld_n {V K X : Nat} {B : Nat → Int32} (hV : V ≤ 8) (hX : X < 256) (hB : ∀ b, b < MB V K → B b = nI (BT V K b)) : ∀ n, n ≤ MB V K → hldF B (nI X) n = nI (hN V K X n) := by
  intro n
  induction n with
  | zero => intro _; exact nI_0.symm
  | succ n ih =>
    intro hn
    have hb := BT_in (v := V) (k := K) (b := n) (by omega)
    have e : hldF B (nI X) (n + 1) = (if (B n &&& nI X) = nI X then hldF B (nI X) n + 1 else hldF B (nI X) n) := by
      unfold hldF
      rw [rF_last, Nat.zero_add]
    have e2 : (nI (BT V K n) &&& nI X = nI X) ↔ (BT V K n &&& X) = X := by
      rw [an_i (by omega) (by omega)]
      refine nI_eq ?_ (by omega)
      have : (BT V K n &&& X) ≤ X := Nat.and_le_right
      omega
    rw [e, ih (by omega), hB n (by omega), hN]
    by_cases h : (BT V K n &&& X) = X
    · rw [if_pos (e2.mpr h), if_pos h, nI_1]
    · rw [if_neg (fun q => h (e2.mp q)), if_neg h]
      rfl
def shN (V K T m : Nat) : Nat := 10 * (100 * V + 10 * K + T) + m
theorem shape_n {V K T m : Nat} : (10 * (((100 * nI V) + (10 * nI K)) + nI T)) + nI m = nI (shN V K T m) := by
  have e10 : (10 : Int32) = nI 10 := by decide
  have e100 : (100 : Int32) = nI 100 := by decide
  rw [e10, e100, pk_mul, pk_mul, nI_add, nI_add, pk_mul, nI_add]
  rfl
def lkE (S S1 : rSt) : Prop := (∀ a k, a ≠ 38 → S1.1 a k = S.1 a k) ∧ S1.2.1 = S.2.1 ∧ (∀ a, a ≠ 41 → a ≠ 42 → S1.2.2.1 a = S.2.2.1 a) ∧ ∀ a, a ≠ 39 → a ≠ 40 → S1.2.2.2 a = S.2.2.2 a
theorem lkE_r (S : rSt) : lkE S S := ⟨fun _ _ _ => rfl, rfl, fun _ _ _ => rfl, fun _ _ _ => rfl⟩
theorem lkE_t {S S1 S2 : rSt} (h : lkE S S1) (g : lkE S1 S2) : lkE S S2 := ⟨fun a k q => (g.1 a k q).trans (h.1 a k q), g.2.1.trans h.2.1, fun a h1 h2 => (g.2.2.1 a h1 h2).trans (h.2.2.1 a h1 h2), fun a q r => (g.2.2.2 a q r).trans (h.2.2.2 a q r)⟩
theorem lkE_p {S S1 : rSt} (h : plE S S1) : lkE S S1 := ⟨fun a k q => h.1 a k (fun r => q r.1), h.2.1, h.2.2.1, fun a _ q => h.2.2.2 a q⟩
theorem lkE_i (S : rSt) (k : Nat) (x : Int32) : lkE S (si S 38 k x) := ⟨fun a j q => by rw [ri_i, if_neg q], rfl, fun _ _ _ => rfl, fun _ _ _ => rfl⟩
theorem lkE_39 (S : rSt) (f : Nat → Int64) : lkE S (sj S 39 f) := ⟨fun _ _ _ => rfl, rfl, fun _ _ _ => rfl, fun a q _ => by rw [rj_j, if_neg q]⟩
theorem lkE_40 (S : rSt) (f : Nat → Int64) : lkE S (sj S 40 f) := ⟨fun _ _ _ => rfl, rfl, fun _ _ _ => rfl, fun a _ q => by rw [rj_j, if_neg q]⟩
/-- what stands in the class's cells when the partings of this size into m parts have been looked for -/
def lkR (V K T m : Nat) (S : rSt) : Prop := S.1 38 1 = nI (shN V K T m) ∧ S.1 38 0 = (dW V K T m).1 ∧ S.1 38 3 = nI (MB V K) ∧ ((dW V K T m).1 ≠ 0 → ∀ b, b < MB V K → S.2.2.1 42 b = (dW V K T m).2 b)
theorem lk_new {V K T m : Nat} (hk : Ok3 V K T) (hl : dLk V K T) (m2 : 2 ≤ m) (m6 : m ≤ 6) {S : rSt} (c0 : S.1 2 0 = nI V) (c1 : S.1 2 1 = nI K) (c2 : S.1 2 2 = nI T) (c3 : S.1 2 3 = nI (MB V K)) (cB : IsB V K (S.2.2.1 3) (S.2.2.1 4)) (hp : J_X2_isParts (nI m) (Wd S) = some true) (hlk : J_X2_isLookedFor 2 (Wd S) = some true) (hne : ¬ nI (shN V K T m) = S.1 38 1) : ∃ S1, J_X2_look 38 2 (nI m) (Wd S) = some (Wd S1) ∧ lkE S S1 ∧ lkR V K T m S1 := by
  obtain ⟨V6, h20⟩ := dLk_V hk hl
  obtain ⟨k1, k2, k3, k4, k5, k6⟩ := id hk
  obtain ⟨d1, d2, d3⟩ := hN_dec V (by omega) K (by omega) T k6 k1 k3 k5
  obtain ⟨-, d4, d5⟩ := sx_0 V (by omega) T (by omega) k1 k5
  have h64 := pV6 V6
  have bt : ¬ bi true = 0 := by decide
  obtain ⟨S0, hS0⟩ : ∃ S0, S0 = si (si (si (si S 38 1 (nI (shN V K T m))) 38 0 0) 38 2 (nI m)) 38 3 (nI (MB V K)) := ⟨_, rfl⟩
  have z1 : S0.1 38 1 = nI (shN V K T m) := by rw [hS0]; rfl
  have z0 : S0.1 38 0 = 0 := by rw [hS0]; rfl
  have z2 : S0.1 38 2 = nI m := by rw [hS0]; rfl
  have z3 : S0.1 38 3 = nI (MB V K) := by rw [hS0]; rfl
  have y0 : S0.1 2 0 = nI V := by rw [hS0]; exact c0
  have y2 : S0.1 2 2 = nI T := by rw [hS0]; exact c2
  have y3 : S0.1 2 3 = nI (MB V K) := by rw [hS0]; exact c3
  have yB : S0.2.2.1 3 = S.2.2.1 3 := by rw [hS0]; rfl
  have E0 : lkE S S0 := by
    rw [hS0]
    exact lkE_t (lkE_t (lkE_t (lkE_i S _ _) (lkE_i _ _ _)) (lkE_i _ _ _)) (lkE_i _ _ _)
  have hX : ((1 : Int32) <<< (nI T &&& 31)) - 1 = nI (2 ^ T - 1) := by
    rw [shl1 T (by omega), nI_prd (Nat.one_le_two_pow)]
  have hh : J_X0_holding 2 (nI (2 ^ T - 1)) (Wd S0) = some (nI (dAll V K T)) := by
    rw [holding2 y3 (by omega), yB, hld_n (by omega) (by omega) cB.1 (MB V K) (Nat.le_refl _), d1]
  have st : J_X2_look 38 2 (nI m) (Wd S) = (if nI (dAll V K T % m) = 0 then (jdiv (nI (dAll V K T)) (nI m)).bind fun v22 => (J_X2_startTallies 38 v22 (Wd S0)).bind fun w24 => rLet (fun (w25 : rW) => ((J_X2_placeBlock 40 38 0 0 w25).bind fun w27 => some w27 : Option rW)) fun K117 => J_X2_look_89 38 2 K117 2000 0 w24 else some (Wd S0)) := by
    unfold J_X2_look
    rw [wr_38, sizes2, bs, c0, c1, c2, shape_n, rLet_eq, wf_38_1, bs, if_neg hne, hp, bs, if_neg bt, hlk, bs, if_neg bt, wp_38_1, bs, wp_38_0, bs, wp_38_2, bs, wf_2_3, bs]
    rw [show (si (si (si S 38 1 (nI (shN V K T m))) 38 0 0) 38 2 (nI m)).1 2 3 = nI (MB V K) from c3, wp_38_3, bs, ← hS0, wf_2_2, bs, y2, hX, hh, bs, jrem_n (by omega) (by omega) (by omega), bs]
  have hd : (nI (dAll V K T % m) = 0) ↔ dAll V K T % m = 0 := by
    have : dAll V K T % m < m := Nat.mod_lt _ (by omega)
    exact nI_eq (b := 0) (by omega) (by decide)
  rw [st]
  unfold lkR dW
  by_cases h : dAll V K T % m = 0
  · have hix : dAll V K T / m ≤ 7 := Nat.le_trans (Nat.div_le_div_left m2 (by decide)) (by omega)
    rw [if_pos (hd.mpr h), if_pos h, jdiv_n (by omega) (by omega) (by omega), bs, tallies38 z2 m6, bs, rLet_eq, look89 (S := sj S0 40 (fun j => if j < m then stT (nI (dAll V K T / m)) else S0.2.2.2 40 j)) (V := V) (K := K) (T := T) h20 (by omega) (by omega) y0 y2 z3]
    obtain ⟨S2, hS2⟩ : ∃ S2, S2 = sj (sj S0 40 (fun j => if j < m then stT (nI (dAll V K T / m)) else S0.2.2.2 40 j)) 39 (fun j => if j < MB V K then stF V T ((sj S0 40 (fun j => if j < m then stT (nI (dAll V K T / m)) else S0.2.2.2 40 j)).2.2.1 3 j) else (sj S0 40 (fun j => if j < m then stT (nI (dAll V K T / m)) else S0.2.2.2 40 j)).2.2.2 39 j) := ⟨_, rfl⟩
    rw [← hS2]
    have E2 : lkE S0 S2 := by
      rw [hS2]
      exact lkE_t (lkE_40 S0 _) (lkE_39 _ _)
    have w0 : S2.1 38 0 = 0 := by rw [hS2]; exact z0
    have w1 : S2.1 38 1 = nI (shN V K T m) := by rw [hS2]; exact z1
    have w2 : S2.1 38 2 = nI m := by rw [hS2]; exact z2
    have w3 : S2.1 38 3 = nI (MB V K) := by rw [hS2]; exact z3
    have hS : plS V K T m S2 := by
      refine ⟨w2, w3, fun b hb => ?_⟩
      rw [hS2]
      show (if b < MB V K then stF V T (S0.2.2.1 3 b) else _) = _
      rw [if_pos hb, yB, cB.1 b hb, st_dec hk V6 hb]
    have hT : plT V K T (dAll V K T / m) m (fun _ => 0) 0 S2 := by
      refine ⟨fun p hp => ?_, fun j hj => absurd hj (Nat.not_lt_zero j)⟩
      rw [hS2]
      show (if p < m then stT (nI (dAll V K T / m)) else _) = _
      rw [if_pos hp, stT_dec _ (by omega)]
      rfl
    obtain ⟨S3, r1, r2, r3, r4⟩ := pl_rec hk V6 h20 m6 hix (MB V K) 40 0 0 (fun _ => 0) (0, fun _ => 0) S2 (by omega) (by omega) (by omega) Iv_0 hS hT ⟨w0, fun q => absurd rfl q⟩
    rw [nI_0] at r1
    refine ⟨S3, ?_, lkE_t (lkE_t E0 E2) (lkE_p r2), ?_, r4.1, ?_, r4.2⟩
    · rw [r1, bs]
    · rw [r2.1 38 1 (by decide)]
      exact w1
    · rw [r2.1 38 3 (by decide)]
      exact w3
  · rw [if_neg (fun q => h (hd.mp q)), if_neg h]
    exact ⟨S0, rfl, E0, z1, z0, z3, fun q => absurd rfl q⟩
theorem dLk_B {V K T : Nat} : lkB V K T = true ↔ dLk V K T := by
  unfold lkB dLk
  exact decide_eq_true_iff
theorem look38 {V K T m : Nat} (hk : Ok3 V K T) (hl : dLk V K T) (m2 : 2 ≤ m) (m6 : m ≤ 6) {S : rSt} (c0 : S.1 2 0 = nI V) (c1 : S.1 2 1 = nI K) (c2 : S.1 2 2 = nI T) (c3 : S.1 2 3 = nI (MB V K)) (cB : IsB V K (S.2.2.1 3) (S.2.2.1 4)) (hp : J_X2_isParts (nI m) (Wd S) = some true) (hlk : J_X2_isLookedFor 2 (Wd S) = some true) (hR : RPt S) : ∃ S1, J_X2_look 38 2 (nI m) (Wd S) = some (Wd S1) ∧ lkE S S1 ∧ lkR V K T m S1 := by
  by_cases hne : nI (shN V K T m) = S.1 38 1
  · refine ⟨S, ?_, lkE_r S, ?_⟩
    · unfold J_X2_look
      rw [wr_38, sizes2, bs, c0, c1, c2, shape_n, rLet_eq, wf_38_1, bs, if_pos hne]
    · obtain ⟨k1, k2, k3, k4, k5, k6⟩ := id hk
      rcases hR with h | ⟨V', K', T', m', hk', q1, q2, q3, h1, h2, h3, h4⟩
      · rw [h] at hne
        exfalso
        have e : shN V K T m = 0 := (nI_eq (b := 0) (by unfold shN; omega) (by decide)).mp hne
        unfold shN at e
        omega
      · obtain ⟨l1, l2, l3, l4, l5, l6⟩ := id hk'
        have e : shN V K T m = shN V' K' T' m' := (nI_eq (by unfold shN; omega) (by unfold shN; omega)).mp (hne.trans h1)
        unfold shN at e
        have eV : V = V' := by omega
        subst eV
        have eK : K = K' := by omega
        subst eK
        have eT : T = T' := by omega
        subst eT
        have em : m = m' := by omega
        subst em
        exact ⟨h1, h2, h3, h4⟩
  · exact lk_new hk hl m2 m6 c0 c1 c2 c3 cB hp hlk hne
theorem parts7 (S : rSt) (K27 : rW → Option rW) : J_X10_parts_7 60 K27 2000 0 (Wd S) = K27 (Wd (sa S 86 (fun j => if j < 1536 then 0 else S.2.2.1 86 j))) := by
  have e0 : (1536 : Int32) ≤ nI 1536 := by decide
  have k2 := loopS (fun f g i => J_X10_parts_7 60 K27 f (nI i) (Wd (sa S 86 g))) (fun g => K27 (Wd (sa S 86 g))) (fun j g => upd g j 0) 1536 (fun f g => by
      rw [J_X10_parts_7, if_pos e0]) (fun f g i hi => by
      have m86 : (sa S 86 g).2.2.1 86 = g := by rw [ra_a, if_pos rfl]
      have e1 : ¬ (1536 : Int32) ≤ nI i := nI_ge (b := 1536) hi (by decide)
      rw [J_X10_parts_7, if_neg e1, wf_60_37, bs, wt_86 hi, bs, rLet_eq, nI_1, sa_ss, m86]) 1536 2000 (S.2.2.1 86) 0 (by omega) (by omega)
  rw [rF_pt (fun _ _ => 0)] at k2
  simp only [sa_id, nI_0, Nat.zero_le, true_and, Nat.zero_add] at k2
  exact k2
theorem parts60 {V K T m : Nat} (hk : Ok3 V K T) (hl : dLk V K T) (m2 : 2 ≤ m) (m6 : m ≤ 6) {M : rSt} (hS : mlS V K T M) : ∃ M1, J_X10_parts 60 (nI m) (Wd M) = some (Wd M1) ∧ mlE M M1 ∧ M1.1 60 38 = (dW V K T m).1 ∧ ((dW V K T m).1 ≠ 0 → ∀ b, b < MB V K → M1.2.2.1 85 b = (dW V K T m).2 b) := by
  obtain ⟨V6, h20⟩ := dLk_V hk hl
  obtain ⟨k1, k2, k3, k4, k5, k6⟩ := id hk
  obtain ⟨d1, d2, d3⟩ := hN_dec V (by omega) K (by omega) T k6 k1 k3 k5
  obtain ⟨M0, hM0⟩ : ∃ M0, M0 = sa (si M 60 38 0) 86 (fun j => if j < 1536 then 0 else (si M 60 38 0).2.2.1 86 j) := ⟨_, rfl⟩
  have E0 : mlE M M0 := by
    rw [hM0]
    exact mlE_t (mlE_i M 0) (mlE_86 _ _)
  have hS0 := mlS_e hS E0
  obtain ⟨m0, m1, mm2, m3, mB⟩ := id hS0
  have z0 : M0.1 60 38 = 0 := by rw [hM0]; rfl
  have e := tk1 k3 k4 k6
  have st : J_X10_parts 60 (nI m) (Wd M) = (if nI (dAll V K T % m) = 0 then (jdiv (nI (dAll V K T)) (nI m)).bind fun v8 => (J_X10_deals 40 60 0 0 (nI m) v8 (Wd M0)).bind fun w10 => some w10 else some (Wd M0)) := by
    unfold J_X10_parts
    rw [wr_60, wp_60_38, bs, rLet_eq, parts7, ← hM0, wf_60_2, bs, wf_60_1, bs, mm2, m1, rLet_eq, wf_60_0]
    simp only [bs, m0]
    by_cases h : T + 1 = K
    · have e1 : nI V - nI K = nI (V - K) := nI_sub0 (by omega)
      have e2 : dAll V K T = V - K + 1 := by unfold dAll; rw [if_pos h]
      rw [if_pos (e.mpr h), e1, nI_1, ← e2, jrem_n (by omega) (by omega) (by omega), bs]
    · have e1 : nI V - 2 = nI (V - 2) := nI_sub0 (a := 2) (by omega)
      have e2 : dAll V K T = (V - 1) * (V - 2) / 2 := by unfold dAll; rw [if_neg h]
      have e3 : nI ((V - 1) * (V - 2)) / 2 = nI ((V - 1) * (V - 2) / 2) := by
        have h36 : (V - 1) * (V - 2) ≤ 5 * 4 := Nat.mul_le_mul (by omega) (by omega)
        exact pk_div (by omega) (d := 2) (by decide) (by decide)
      rw [if_neg (fun q => h (e.mp q)), nI_prd (by omega), e1, pk_mul, jdiv2, bs, e3, ← e2, jrem_n (by omega) (by omega) (by omega), bs]
  have hd : (nI (dAll V K T % m) = 0) ↔ dAll V K T % m = 0 := by
    have : dAll V K T % m < m := Nat.mod_lt _ (by omega)
    exact nI_eq (b := 0) (by omega) (by decide)
  rw [st]
  unfold dW
  by_cases h : dAll V K T % m = 0
  · have hix : dAll V K T / m ≤ 7 := Nat.le_trans (Nat.div_le_div_left m2 (by decide)) (by omega)
    have hall : dAll V K T = dAll V K T / m * m := (Nat.div_mul_cancel (Nat.dvd_of_mod_eq_zero h)).symm
    have h64 := pV6 V6
    have hT : mlT V K T m (fun _ => 0) 0 M0 := by
      refine ⟨fun p hp x x1 _ => ?_, fun j hj => absurd hj (Nat.not_lt_zero j)⟩
      rw [hM0]
      show (if 256 * p + x < 1536 then (0 : Int32) else _) = _
      rw [if_pos (by omega)]
      rfl
    obtain ⟨M1, r1, r2, r3, r4⟩ := dl_rec hk V6 h20 m6 hix hall (MB V K) 40 0 0 (fun _ => 0) (0, fun _ => 0) M0 (by omega) (by omega) (by omega) (fun j hj => absurd hj (Nat.not_lt_zero j)) Iv_0 hS0 hT ⟨z0, fun q => absurd rfl q⟩
    rw [nI_0] at r1
    rw [if_pos (hd.mpr h), if_pos h, jdiv_n (by omega) (by omega) (by omega), bs, r1, bs]
    exact ⟨M1, rfl, mlE_t E0 r2, r4⟩
  · rw [if_neg (fun q => h (hd.mp q)), if_neg h]
    exact ⟨M0, rfl, E0, z0, fun q => absurd rfl q⟩

/-! PARTINGS: the class -/
def stP (B : Int32) (x : Nat) : Int64 := rF (fun i s => if (B &&& (1 <<< (nI i &&& 31))) = (1 <<< (nI i &&& 31)) then s + (1 <<< (Int32.toInt64 (4 * ((nI x * (nI x - 1)) / 2 + nI i)) &&& 63)) else s) x 0 0
def stF (V T : Nat) (B : Int32) : Int64 := rF (fun i s => if (B &&& (1 <<< (nI i &&& 31))) = (1 <<< (nI i &&& 31)) then (if T = 1 then s + (1 <<< (Int32.toInt64 (4 * nI i) &&& 63)) else s + stP B i) else s) V 0 0
theorem st_de0 : ∀ v, v < 3 → ∀ t, t < 2 → ∀ B, B < 2 ^ (v + 4) → stF (v + 4) (t + 1) (nI B) = lN (hx 15 (fun i => if (B &&& sx (v + 4) (t + 1) i) = sx (v + 4) (t + 1) i then 1 else 0)) := by decide +kernel
theorem st_dec {V K T b : Nat} (hk : Ok3 V K T) (h6 : V ≤ 6) (hb : b < MB V K) : stF V T (nI (BT V K b)) = lN (hx 15 (sD V K T b)) := by
  obtain ⟨k1, k2, k3, k4, k5, k6⟩ := hk
  have h1 := (pr_lt (BT_in hb).1).1
  unfold sD
  generalize BT V K b = B at h1 ⊢
  obtain ⟨v, rfl⟩ : ∃ v, V = v + 4 := ⟨V - 4, by omega⟩
  obtain ⟨t, rfl⟩ : ∃ t, T = t + 1 := ⟨T - 1, by omega⟩
  exact st_de0 v (by omega) t (by omega) B h1
theorem stepOfPairs2 {S : rSt} {b x : Nat} (hb : b < 56) (hx : x < 20) : J_X2_stepOfPairs 2 (nI b) (nI x) (Wd S) = some (stP (S.2.2.1 3 b) x) := by
  have e0 := nI_refl (n := x) (by omega)
  unfold J_X2_stepOfPairs
  refine loopS (fun f s i => J_X2_stepOfPairs_5 2 (nI b) (nI x) (Wd S) f s (nI i)) some (fun i s => if ((S.2.2.1 3 b) &&& (1 <<< (nI i &&& 31))) = (1 <<< (nI i &&& 31)) then s + (1 <<< (Int32.toInt64 (4 * ((nI x * (nI x - 1)) / 2 + nI i)) &&& 63)) else s) x ?_ ?_ x 2000 0 0 (by omega) (by omega)
  · intro f s
    rw [J_X2_stepOfPairs_5, if_pos e0]
  · intro f s i hi
    rw [J_X2_stepOfPairs_5, if_neg (nI_ge hi (by omega)), holds2 hb, bs]
    simp only [rLet_eq, jdiv2, bs, nI_1]
    by_cases h : ((S.2.2.1 3 b) &&& (1 <<< (nI i &&& 31))) = (1 <<< (nI i &&& 31))
    · rw [if_pos h, decide_eq_true h, if_neg (by decide)]
    · rw [if_neg h, decide_eq_false h, if_pos (by decide)]
theorem stepOf2 {S : rSt} {b V T : Nat} (hb : b < 56) (hV : V ≤ 8) (hT : T < 50) (c0 : S.1 2 0 = nI V) (c2 : S.1 2 2 = nI T) : J_X2_stepOf 2 (nI b) (Wd S) = some (stF V T (S.2.2.1 3 b)) := by
  have e0 := nI_refl (n := V) (by omega)
  have eT : (nI T = 1) ↔ T = 1 := nI_eq (b := 1) (by omega) (by decide)
  unfold J_X2_stepOf
  refine loopS (fun f s i => J_X2_stepOf_5 2 (nI b) (Wd S) f s (nI i)) some (fun i s => if ((S.2.2.1 3 b) &&& (1 <<< (nI i &&& 31))) = (1 <<< (nI i &&& 31)) then (if T = 1 then s + (1 <<< (Int32.toInt64 (4 * nI i) &&& 63)) else s + stP (S.2.2.1 3 b) i) else s) V ?_ ?_ V 2000 0 0 (by omega) (by omega)
  · intro f s
    rw [J_X2_stepOf_5, wf_2_0, bs, c0, if_pos e0]
  · intro f s i hi
    rw [J_X2_stepOf_5, wf_2_0, bs, c0, if_neg (nI_ge hi (by omega)), holds2 hb, bs]
    simp only [rLet_eq, wf_2_2, bs, c2, stepOfPairs2 hb (show i < 20 by omega), nI_1]
    by_cases h : ((S.2.2.1 3 b) &&& (1 <<< (nI i &&& 31))) = (1 <<< (nI i &&& 31))
    · rw [if_pos h, decide_eq_true h, if_neg (by decide)]
      by_cases h2 : T = 1
      · rw [if_pos (eT.mpr h2), if_pos h2]
      · rw [if_neg (fun q => h2 (eT.mp q)), if_neg h2]
    · rw [if_neg h, decide_eq_false h, if_pos (by decide)]
def stT (x : Int32) : Int64 := rF (fun i s => s ||| ((Int32.toInt64 (7 - x)) <<< (Int32.toInt64 (4 * nI i) &&& 63))) 15 0 0
theorem stT_dec : ∀ ix, ix < 8 → stT (nI ix) = lN (hx 15 (fun _ => 7 - ix)) := by decide +kernel
theorem tallies38 {S : rSt} {m : Nat} (hm : S.1 38 2 = nI m) (h6 : m ≤ 6) (x : Int32) : J_X2_startTallies 38 x (Wd S) = some (Wd (sj S 40 (fun j => if j < m then stT x else S.2.2.2 40 j))) := by
  have e15 : (15 : Int32) ≤ nI 15 := by decide
  have k1 : ∀ K : Int64 → Option rW, J_X2_startTallies_5 x K 2000 0 0 = K (stT x) := fun K =>
    loopS (fun f s i => J_X2_startTallies_5 x K f s (nI i)) K (fun i s => s ||| ((Int32.toInt64 (7 - x)) <<< (Int32.toInt64 (4 * nI i) &&& 63))) 15 (fun f s => by
      rw [J_X2_startTallies_5, if_pos e15]) (fun f s i hi => by
      have e : ¬ (15 : Int32) ≤ nI i := nI_ge (b := 15) hi (by decide)
      rw [J_X2_startTallies_5, if_neg e]
      simp only [rLet_eq, nI_1]) 15 2000 0 0 (by omega) (by omega)
  have e0 := nI_refl (n := m) (by omega)
  have k2 := loopS (fun f g i => J_X2_startTallies_34 38 (stT x) f (nI i) (Wd (sj S 40 g))) (fun g => some (Wd (sj S 40 g))) (fun j g => vp_updL g j (stT x)) m (fun f g => by
      rw [J_X2_startTallies_34, wf_38_2, bs]
      show (if S.1 38 2 ≤ nI m then _ else _) = _
      rw [hm, if_pos e0]) (fun f g i hi => by
      rw [J_X2_startTallies_34, wf_38_2, bs]
      show (if S.1 38 2 ≤ nI i then _ else _) = _
      rw [hm, if_neg (nI_ge hi (by omega)), wf_38_5, bs, wt_40 (show i < 6 by omega), bs, rLet_eq, nI_1]
      rfl) m 2000 (S.2.2.2 40) 0 (by omega) (by omega)
  rw [rF_ptL (fun _ _ => stT x)] at k2
  simp only [sj_id, nI_0, Nat.zero_le, true_and, Nat.zero_add] at k2
  unfold J_X2_startTallies
  rw [wr_38, rLet_eq, k1, k2]
theorem look89 {S : rSt} {V K T : Nat} (h56 : MB V K ≤ 20) (hV : V ≤ 8) (hT : T < 50) (c0 : S.1 2 0 = nI V) (c2 : S.1 2 2 = nI T) (hM : S.1 38 3 = nI (MB V K)) (K117 : rW → Option rW) : J_X2_look_89 38 2 K117 2000 0 (Wd S) = K117 (Wd (sj S 39 (fun j => if j < MB V K then stF V T (S.2.2.1 3 j) else S.2.2.2 39 j))) := by
  have e0 := nI_refl (n := MB V K) (by omega)
  have k2 := loopS (fun f g i => J_X2_look_89 38 2 K117 f (nI i) (Wd (sj S 39 g))) (fun g => K117 (Wd (sj S 39 g))) (fun j g => vp_updL g j (stF V T (S.2.2.1 3 j))) (MB V K) (fun f g => by
      rw [J_X2_look_89, wf_38_3, bs]
      show (if S.1 38 3 ≤ nI (MB V K) then _ else _) = _
      rw [hM, if_pos e0]) (fun f g i hi => by
      rw [J_X2_look_89, wf_38_3, bs]
      show (if S.1 38 3 ≤ nI i then _ else _) = _
      rw [hM, if_neg (nI_ge hi (by omega)), wf_38_4, bs, stepOf2 (S := sj S 39 g) (by omega) hV hT c0 c2, bs, wt_39 (show i < 20 by omega), bs, rLet_eq, nI_1]
      rfl) (MB V K) 2000 (S.2.2.2 39) 0 (by omega) (by omega)
  rw [rF_ptL (fun j _ => stF V T (S.2.2.1 3 j))] at k2
  simp only [sj_id, nI_0, Nat.zero_le, true_and, Nat.zero_add] at k2
  exact k2
theorem addWay38 (S : rSt) : J_X2_addWay 38 (Wd S) = some (Wd (if S.1 38 0 = 0 then si (sa S 42 (va_cpy (S.2.2.1 41) (S.2.2.1 42) 0 0 20)) 38 0 (S.1 38 0 + 1) else si S 38 0 (S.1 38 0 + 1))) := by
  have e1 : rCpI (Wd S) 41 0 42 0 20 = some (Wd (sa S 42 (va_cpy (S.2.2.1 41) (S.2.2.1 42) 0 0 20))) := by
    unfold rCpI
    rw [wg_41, wg_42]
    simp only []
    rw [if_neg (by decide), ws_42]
    rfl
  unfold J_X2_addWay
  rw [wr_38, wf_38_0, bs, rLet_eq]
  by_cases h : S.1 38 0 = 0
  · rw [if_pos h, if_pos h]
    simp only [wf_38_6, bs, wf_38_7, e1, wf_38_0, wp_38_0]
    rfl
  · rw [if_neg h, if_neg h]
    simp only [bs, wf_38_0, wp_38_0]
def plE (S S1 : rSt) : Prop := (∀ a k, ¬ (a = 38 ∧ k = 0) → S1.1 a k = S.1 a k) ∧ S1.2.1 = S.2.1 ∧ (∀ a, a ≠ 41 → a ≠ 42 → S1.2.2.1 a = S.2.2.1 a) ∧ ∀ a, a ≠ 40 → S1.2.2.2 a = S.2.2.2 a
theorem plE_r (S : rSt) : plE S S := ⟨fun _ _ _ => rfl, rfl, fun _ _ _ => rfl, fun _ _ => rfl⟩
theorem plE_t {S S1 S2 : rSt} (h : plE S S1) (g : plE S1 S2) : plE S S2 := ⟨fun a k q => (g.1 a k q).trans (h.1 a k q), g.2.1.trans h.2.1, fun a h1 h2 => (g.2.2.1 a h1 h2).trans (h.2.2.1 a h1 h2), fun a q => (g.2.2.2 a q).trans (h.2.2.2 a q)⟩
theorem plE_j (S : rSt) (f : Nat → Int64) : plE S (sj S 40 f) := ⟨fun _ _ _ => rfl, rfl, fun _ _ _ => rfl, fun a q => by rw [rj_j, if_neg q]⟩
theorem plE_a (S : rSt) (f : Nat → Int32) : plE S (sa S 41 f) := ⟨fun _ _ _ => rfl, rfl, fun a q _ => by rw [ra_a, if_neg q], fun _ _ => rfl⟩
theorem plE_b (S : rSt) (f : Nat → Int32) : plE S (sa S 42 f) := ⟨fun _ _ _ => rfl, rfl, fun a _ q => by rw [ra_a, if_neg q], fun _ _ => rfl⟩
theorem plE_i (S : rSt) (x : Int32) : plE S (si S 38 0 x) := ⟨fun a k q => by
  rw [ri_i]
  by_cases h : a = 38
  · rw [if_pos h, if_neg (fun r => q ⟨h, r⟩)]
  · rw [if_neg h], rfl, fun _ _ _ => rfl, fun _ _ => rfl⟩
def plS (V K T m : Nat) (S : rSt) : Prop := S.1 38 2 = nI m ∧ S.1 38 3 = nI (MB V K) ∧ ∀ b, b < MB V K → S.2.2.2 39 b = lN (hx 15 (sD V K T b))
theorem plS_e {V K T m : Nat} {S S1 : rSt} (h : plS V K T m S) (e : plE S S1) : plS V K T m S1 := by
  refine ⟨(e.1 38 2 (by decide)).trans h.1, (e.1 38 3 (by decide)).trans h.2.1, fun b hb => ?_⟩
  rw [e.2.2.2 39 (by decide)]
  exact h.2.2 b hb
def plA (V K : Nat) (S : rSt) (c : dAcc) : Prop := S.1 38 0 = c.1 ∧ (c.1 ≠ 0 → ∀ j, j < MB V K → S.2.2.1 42 j = c.2 j)
def plT (V K T ix m : Nat) (a : Nat → Nat) (b : Nat) (S : rSt) : Prop := (∀ p, p < m → S.2.2.2 40 p = lN (hx 15 (tD V K T ix a p b))) ∧ ∀ j, j < b → S.2.2.1 41 j = nI (a j)
theorem jmin_nn {a b : Nat} (ha : a < 2 ^ 31) (hb : b < 2 ^ 31) : jmin (nI a) (nI b) = nI (min a b) := by
  unfold jmin
  by_cases h : b < a
  · rw [if_pos (nI_lt h ha), Nat.min_eq_right (by omega)]
  · have e : ¬ nI b < nI a := Int32.not_lt.mpr (nI_le (by omega) hb)
    rw [if_neg e, Nat.min_eq_left (by omega)]
def dStep (V K T ix m b o r : Nat) (a : Nat → Nat) (p : Nat) (c : dAcc) : dAcc := if dOk V K T ix a b p = true then dSr V K T ix m r (b + 1) (max o (p + 1)) (updN a b p) c else c
theorem pl_loop {V K T ix m b o r : Nat} (hk : Ok3 V K T) (h6 : V ≤ 6) (h20 : MB V K ≤ 20) (hm : m ≤ 6) (h7 : ix ≤ 7) (hb : b < MB V K) (a : Nat → Nat) (hI : Iv V K T ix m a b) (rec : Nat → Int32 → Int32 → rW → Option rW) (hrec : ∀ p S c, p < m → p ≤ o → dOk V K T ix a b p = true → plS V K T m S → plT V K T ix m (updN a b p) (b + 1) S → plA V K S c → ∃ S1, rec 38 (nI (b + 1)) (nI (max o (p + 1))) (Wd S) = some (Wd S1) ∧ plE S S1 ∧ plT V K T ix m (updN a b p) (b + 1) S1 ∧ plA V K S1 (dSr V K T ix m r (b + 1) (max o (p + 1)) (updN a b p) c)) (ho : o ≤ m) : ∀ q p f S c, p + q = min (o + 1) m → q < f → plS V K T m S → plT V K T ix m a b S → plA V K S c → ∃ S1, J_X2_placeBlock_27 rec 38 (nI b) (nI o) (nI (min (o + 1) m)) f (nI p) (Wd S) = some (Wd S1) ∧ plE S S1 ∧ plT V K T ix m a b S1 ∧ plA V K S1 (rF (dStep V K T ix m b o r a) q p c) := by
  intro q
  induction q with
  | zero =>
    intro p f S c hp hf hS hT hA
    obtain ⟨g, rfl⟩ : ∃ g, f = g + 1 := ⟨f - 1, by omega⟩
    have : p = min (o + 1) m := by omega
    subst this
    refine ⟨S, ?_, plE_r S, hT, hA⟩
    rw [J_X2_placeBlock_27, if_pos (nI_refl (by omega))]
  | succ q ih =>
    intro p f S c hp hf hS hT hA
    obtain ⟨g, rfl⟩ : ∃ g, f = g + 1 := ⟨f - 1, by omega⟩
    have pm : p < m := by omega
    have po : p ≤ o := by omega
    have p6 : p < 6 := by omega
    have b20 : b < 20 := by omega
    have tl := tally hk h6 h7 hb hI pm
    have eT := hT.1 p pm
    have eS := hS.2.2 b hb
    rw [J_X2_placeBlock_27, if_neg (nI_ge (b := min (o + 1) m) (by omega) (by omega)), wf_38_5, bs, wa_40 p6, bs, wf_38_4, bs, wa_39 b20, bs, eT, eS, rLet_eq, rLet_eq]
    show ∃ S1, _ ∧ plE S S1 ∧ plT V K T ix m a b S1 ∧ plA V K S1 (rF (dStep V K T ix m b o r a) q (p + 1) (dStep V K T ix m b o r a p c))
    by_cases hd : dOk V K T ix a b p = true
    · rw [if_pos (tl.1.mpr hd), tl.2]
      have hT1 : plT V K T ix m (updN a b p) (b + 1) (sa (sj S 40 (vp_updL (S.2.2.2 40) p (lN (hx 15 (tD V K T ix (updN a b p) p (b + 1)))))) 41 (upd ((sj S 40 (vp_updL (S.2.2.2 40) p (lN (hx 15 (tD V K T ix (updN a b p) p (b + 1)))))).2.2.1 41) b (nI p))) := by
        refine ⟨fun j hj => ?_, fun j hj => ?_⟩
        · show vp_updL (S.2.2.2 40) p _ j = _
          rw [uL_a]
          by_cases h : j = p
          · rw [if_pos h, h]
          · rw [if_neg h, hT.1 j hj, tally_o h]
        · show upd (S.2.2.1 41) b (nI p) j = _
          rw [up_a]
          unfold updN
          by_cases h : j = b
          · rw [if_pos h, if_pos h]
          · rw [if_neg h, if_neg h]
            exact hT.2 j (by omega)
      have hE1 := plE_t (plE_j S (vp_updL (S.2.2.2 40) p (lN (hx 15 (tD V K T ix (updN a b p) p (b + 1)))))) (plE_a _ (upd ((sj S 40 (vp_updL (S.2.2.2 40) p (lN (hx 15 (tD V K T ix (updN a b p) p (b + 1)))))).2.2.1 41) b (nI p)))
      obtain ⟨S2, r1, r2, r3, r4⟩ := hrec p _ c pm po hd (plS_e hS hE1) hT1 hA
      have hE3 := plE_t (plE_t hE1 r2) (plE_j S2 (vp_updL (S2.2.2.2 40) p (lN (hx 15 (tD V K T ix a p b)))))
      have hT3 : plT V K T ix m a b (sj S2 40 (vp_updL (S2.2.2.2 40) p (lN (hx 15 (tD V K T ix a p b))))) := by
        refine ⟨fun j hj => ?_, fun j hj => ?_⟩
        · show vp_updL (S2.2.2.2 40) p _ j = _
          rw [uL_a]
          by_cases h : j = p
          · rw [if_pos h, h]
          · rw [if_neg h, r3.1 j hj, tally_o h]
        · show S2.2.2.1 41 j = _
          rw [r3.2 j (by omega)]
          unfold updN
          rw [if_neg (by omega)]
      obtain ⟨S4, q1, q2, q3, q4⟩ := ih (p + 1) g _ _ (by omega) (by omega) (plS_e hS hE3) hT3 (show plA V K (sj S2 40 (vp_updL (S2.2.2.2 40) p (lN (hx 15 (tD V K T ix a p b))))) (dStep V K T ix m b o r a p c) by
        unfold dStep
        rw [if_pos hd]
        exact r4)
      refine ⟨S4, ?_, plE_t hE3 q2, q3, q4⟩
      rw [bs, wt_40 p6, bs, wf_38_6, bs, wt_41 b20, bs, nI_1, nI_1, jmax_nn (by omega) (by omega), r1, bs, wf_38_5, bs, wt_40 p6, bs]
      exact q1
    · rw [if_neg (fun h => hd (tl.1.mp h)), nI_1]
      obtain ⟨S4, q1, q2, q3, q4⟩ := ih (p + 1) g S _ (by omega) (by omega) hS hT (show plA V K S (dStep V K T ix m b o r a p c) by
        unfold dStep
        rw [if_neg hd]
        exact hA)
      exact ⟨S4, q1, q2, q3, q4⟩
theorem pl_rec {V K T ix m : Nat} (hk : Ok3 V K T) (h6 : V ≤ 6) (h20 : MB V K ≤ 20) (hm : m ≤ 6) (h7 : ix ≤ 7) : ∀ r F b o a c S, b + r = MB V K → r < F → o ≤ m → Iv V K T ix m a b → plS V K T m S → plT V K T ix m a b S → plA V K S c → ∃ S1, J_X2_placeBlock F 38 (nI b) (nI o) (Wd S) = some (Wd S1) ∧ plE S S1 ∧ plT V K T ix m a b S1 ∧ plA V K S1 (dSr V K T ix m r b o a c) := by
  intro r
  induction r with
  | zero =>
    intro F b o a c S hb hF ho hI hS hT hA
    obtain ⟨g, rfl⟩ : ∃ g, F = g + 1 := ⟨F - 1, by omega⟩
    have hb' : b = MB V K := by omega
    rw [J_X2_placeBlock, wf_38_3, bs, hS.2.1, if_neg (Int32.not_lt.mpr (nI_le (by omega) (by omega))), addWay38, bs]
    refine ⟨_, rfl, ?_⟩
    have hT41 : ∀ j, j < MB V K → S.2.2.1 41 j = nI (a j) := fun j hj => hT.2 j (by omega)
    show _ ∧ _ ∧ plA V K _ (dLeaf a c)
    unfold dLeaf
    by_cases h : S.1 38 0 = 0
    · rw [if_pos h, if_pos (hA.1.symm.trans h)]
      refine ⟨plE_t (plE_b S _) (plE_i _ _), hT, ?_, fun _ j hj => ?_⟩
      · show S.1 38 0 + 1 = c.1 + 1
        rw [hA.1]
      · show va_cpy (S.2.2.1 41) (S.2.2.1 42) 0 0 20 j = nI (a j)
        rw [← hT41 j hj]
        unfold va_cpy
        rw [if_pos (by omega)]
        exact congrArg (S.2.2.1 41) (by omega)
    · rw [if_neg h, if_neg (fun q => h (hA.1.trans q))]
      refine ⟨plE_i _ _, hT, ?_, fun _ j hj => hA.2 (fun q => h (hA.1.trans q)) j hj⟩
      show S.1 38 0 + 1 = c.1 + 1
      rw [hA.1]
  | succ r ih =>
    intro F b o a c S hb hF ho hI hS hT hA
    obtain ⟨g, rfl⟩ : ∃ g, F = g + 1 := ⟨F - 1, by omega⟩
    rw [J_X2_placeBlock, wf_38_3, bs, hS.2.1, if_pos (nI_lt (by omega) (by omega)), wf_38_2, bs, hS.1, nI_1, jmin_nn (by omega) (by omega), rLet_eq]
    exact pl_loop (r := r) hk h6 h20 hm h7 (by omega) a hI (J_X2_placeBlock g) (fun p S c pm po hd h1 h2 h3 => ih g (b + 1) (max o (p + 1)) (updN a b p) c S (by omega) (by omega) (by omega) (Iv_s hI hd) h1 h2 h3) ho (min (o + 1) m) 0 2000 S c (by omega) (by omega) hS hT hA

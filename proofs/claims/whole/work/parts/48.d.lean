/-! PARTINGS: the model's search -/
def mlT (V K T m : Nat) (a : Nat → Nat) (b : Nat) (S : rSt) : Prop := (∀ p, p < m → ∀ x, x < 2 ^ V → pc x = T → S.2.2.1 86 (256 * p + x) = nI (cvN V K a p x b)) ∧ ∀ j, j < b → S.2.2.1 84 j = nI (a j)
def mlA (V K : Nat) (S : rSt) (c : dAcc) : Prop := S.1 60 38 = c.1 ∧ (c.1 ≠ 0 → ∀ j, j < MB V K → S.2.2.1 85 j = c.2 j)
def mlE (S S1 : rSt) : Prop := (∀ a k, ¬ (a = 60 ∧ k = 38) → S1.1 a k = S.1 a k) ∧ S1.2.1 = S.2.1 ∧ (∀ a, a ≠ 84 → a ≠ 85 → a ≠ 86 → S1.2.2.1 a = S.2.2.1 a) ∧ S1.2.2.2 = S.2.2.2
theorem mlE_r (S : rSt) : mlE S S := ⟨fun _ _ _ => rfl, rfl, fun _ _ _ _ => rfl, rfl⟩
theorem mlE_t {S S1 S2 : rSt} (h : mlE S S1) (g : mlE S1 S2) : mlE S S2 := ⟨fun a k q => (g.1 a k q).trans (h.1 a k q), g.2.1.trans h.2.1, fun a h1 h2 h3 => (g.2.2.1 a h1 h2 h3).trans (h.2.2.1 a h1 h2 h3), g.2.2.2.trans h.2.2.2⟩
theorem mlE_84 (S : rSt) (f : Nat → Int32) : mlE S (sa S 84 f) := ⟨fun _ _ _ => rfl, rfl, fun a q _ _ => by rw [ra_a, if_neg q], rfl⟩
theorem mlE_85 (S : rSt) (f : Nat → Int32) : mlE S (sa S 85 f) := ⟨fun _ _ _ => rfl, rfl, fun a _ q _ => by rw [ra_a, if_neg q], rfl⟩
theorem mlE_86 (S : rSt) (f : Nat → Int32) : mlE S (sa S 86 f) := ⟨fun _ _ _ => rfl, rfl, fun a _ _ q => by rw [ra_a, if_neg q], rfl⟩
theorem mlE_i (S : rSt) (x : Int32) : mlE S (si S 60 38 x) := ⟨fun a k q => by
  rw [ri_i]
  by_cases h : a = 60
  · rw [if_pos h, if_neg (fun r => q ⟨h, r⟩)]
  · rw [if_neg h], rfl, fun _ _ _ _ => rfl, rfl⟩
theorem mlS_e {V K T : Nat} {S S1 : rSt} (h : mlS V K T S) (e : mlE S S1) : mlS V K T S1 := by
  unfold mlS at *
  rw [e.1 60 0 (by decide), e.1 60 1 (by decide), e.1 60 2 (by decide), e.1 60 3 (by decide), e.2.2.1 61 (by decide) (by decide) (by decide), e.2.2.1 62 (by decide) (by decide) (by decide)]
  exact h
theorem sub_le {B x : Nat} (h : (B &&& x) = x) : x ≤ B := by
  have h1 : (B &&& x) ≤ B := Nat.and_le_left
  omega
theorem takes60 {V K T b p ix m : Nat} {a : Nat → Nat} {S : rSt} (hk : Ok3 V K T) (h6 : V ≤ 6) (h20 : MB V K ≤ 20) (hm : m ≤ 6) (hix : ix ≤ 7) (hb : b < MB V K) (hp : p < m) (hS : mlS V K T S) (hI : Iv V K T ix m a b) (hT : mlT V K T m a b S) : J_X10_takes 60 (nI b) (nI p) (nI ix) (Wd S) = if dOk V K T ix a b p = true then some (true, Wd (sa S 86 (sbG T (BT V K b) p (fun z => z + 1) 2000 (BT V K b) (S.2.2.1 86)))) else some (false, Wd S) := by
  have hBT := (pr_lt (BT_in hb).1).1
  have h64 := pV6 h6
  have t8 := fun K60 => tk8 hk h6 hb h20 (show p < 6 by omega) hix hS (c := fun y => cvN V K a p y b) (fun y y1 y2 => ⟨hT.1 p hp y y1 y2, by have := cv_le (V := V) (K := K) (p := p) (x := y) (a := a) b; show cvN V K a p y b ≤ 100; omega⟩) K60 2000 (BT V K b) (by omega) hBT (Nat.and_self _)
  have t68 := tk68 hk h6 hb h20 (show p < 6 by omega) hS 2000 (BT V K b) (S.2.2.1 86) (by omega) (by omega)
  rw [sa_id] at t68
  have hB := hS.2.2.2.2.1 b hb
  unfold J_X10_takes
  rw [wr_60]
  simp only [wf_60_4, bs, wa_61 (show b < 56 by omega), hB, rLet_eq, t68]
  by_cases hd : dOk V K T ix a b p = true
  · rw [if_pos hd]
    refine (t8 _).2 ?_
    rintro ⟨y, y1, y2, y3, y4⟩
    have h1 := dOk_iff.mp hd y (by omega) y3 y2
    have h2 : cvN V K a p y b = ix := y4
    omega
  · rw [if_neg hd]
    refine (t8 _).1 (Classical.byContradiction fun h => hd (dOk_iff.mpr (fun x x1 x2 x3 => ?_)))
    have h1 := hI p hp x x1 x2
    refine Nat.lt_of_le_of_ne h1 (fun q => h ⟨x, sub_le x3, x3, x2, q⟩)
theorem ml_loop {V K T ix m b o r : Nat} (hk : Ok3 V K T) (h6 : V ≤ 6) (h20 : MB V K ≤ 20) (hm : m ≤ 6) (h7 : ix ≤ 7) (hb : b < MB V K) (a : Nat → Nat) (hI : Iv V K T ix m a b) (rec : Nat → Int32 → Int32 → Int32 → Int32 → rW → Option rW) (hrec : ∀ p S c, p < m → p ≤ o → dOk V K T ix a b p = true → mlS V K T S → mlT V K T m (updN a b p) (b + 1) S → mlA V K S c → ∃ S1, rec 60 (nI (b + 1)) (nI (max o (p + 1))) (nI m) (nI ix) (Wd S) = some (Wd S1) ∧ mlE S S1 ∧ mlT V K T m (updN a b p) (b + 1) S1 ∧ mlA V K S1 (dSr V K T ix m r (b + 1) (max o (p + 1)) (updN a b p) c)) (ho : o ≤ m) : ∀ q p f S c, p + q = min (o + 1) m → q < f → mlS V K T S → mlT V K T m a b S → mlA V K S c → ∃ S1, J_X10_deals_67 rec 60 (nI b) (nI o) (nI m) (nI ix) f (nI p) (Wd S) = some (Wd S1) ∧ mlE S S1 ∧ mlT V K T m a b S1 ∧ mlA V K S1 (rF (dStep V K T ix m b o r a) q p c) := by
  have hBT := (pr_lt (BT_in hb).1).1
  have h64 := pV6 h6
  have k5 : 1 ≤ T := hk.2.2.2.2.1
  intro q
  induction q with
  | zero =>
    intro p f S c hp hf hS hT hA
    obtain ⟨g, rfl⟩ : ∃ g, f = g + 1 := ⟨f - 1, by omega⟩
    refine ⟨S, ?_, mlE_r S, hT, hA⟩
    rw [J_X10_deals_67]
    by_cases h : o < p
    · rw [if_pos (nI_lt h (by omega))]
    · have e1 : ¬ nI o < nI p := Int32.not_lt.mpr (nI_le (by omega) (by omega))
      rw [if_neg e1, if_pos (nI_le (by omega) (by omega))]
  | succ q ih =>
    intro p f S c hp hf hS hT hA
    obtain ⟨g, rfl⟩ : ∃ g, f = g + 1 := ⟨f - 1, by omega⟩
    have pm : p < m := by omega
    have po : p ≤ o := by omega
    have p6 : p < 6 := by omega
    have b56 : b < 56 := by omega
    have e1 : ¬ nI o < nI p := Int32.not_lt.mpr (nI_le (by omega) (by omega))
    rw [J_X10_deals_67, if_neg e1, if_neg (nI_ge pm (by omega)), takes60 hk h6 h20 hm h7 hb pm hS hI hT]
    show ∃ S1, _ ∧ mlE S S1 ∧ mlT V K T m a b S1 ∧ mlA V K S1 (rF (dStep V K T ix m b o r a) q (p + 1) (dStep V K T ix m b o r a p c))
    by_cases hd : dOk V K T ix a b p = true
    · rw [if_pos hd]
      have hG : ∃ G, G = sbG T (BT V K b) p (fun z => z + 1) 2000 (BT V K b) (S.2.2.1 86) := ⟨_, rfl⟩
      obtain ⟨G, hG⟩ := hG
      rw [← hG]
      have hT1 : mlT V K T m (updN a b p) (b + 1) (sa (sa S 86 G) 84 (upd ((sa S 86 G).2.2.1 84) b (nI p))) := by
        refine ⟨fun j hj x x1 x2 => ?_, fun j hj => ?_⟩
        · show G (256 * j + x) = _
          rw [hG, sbG_e k5 (by omega) _ 2000 (BT V K b) _ (by omega) (by omega) (Nat.and_self _) j x (by omega), hT.1 j hj x x1 x2, cv_upd]
          by_cases hc : p = j ∧ (BT V K b &&& x) = x
          · rw [if_pos hc, if_pos ⟨hc.1.symm, sub_le hc.2, hc.2, x2⟩, nI_1]
          · rw [if_neg hc, if_neg (fun r => hc ⟨r.1.symm, r.2.2.1⟩)]
            rfl
        · show upd (S.2.2.1 84) b (nI p) j = _
          rw [up_a]
          unfold updN
          by_cases h : j = b
          · rw [if_pos h, if_pos h]
          · rw [if_neg h, if_neg h]
            exact hT.2 j (by omega)
      have hE1 := mlE_t (mlE_86 S G) (mlE_84 (sa S 86 G) (upd ((sa S 86 G).2.2.1 84) b (nI p)))
      obtain ⟨S2, r1, r2, r3, r4⟩ := hrec p _ c pm po hd (mlS_e hS hE1) hT1 hA
      have hE2 := mlE_t hE1 r2
      have hS2 := mlS_e hS hE2
      have hH : ∃ H, H = sbG T (BT V K b) p (fun z => z - 1) 2000 (BT V K b) (S2.2.2.1 86) := ⟨_, rfl⟩
      obtain ⟨H, hH⟩ := hH
      have d128 : ∀ K179, J_X10_deals_128 60 (nI b) (nI p) K179 2000 (nI (BT V K b)) (Wd S2) = K179 (Wd (sa S2 86 H)) := fun K179 => by
        have h := dl128 hk h6 hb h20 p6 hS2 K179 2000 (BT V K b) (S2.2.2.1 86) (by omega) (by omega)
        rw [sa_id, ← hH] at h
        exact h
      have hE3 := mlE_t hE2 (mlE_86 S2 H)
      have hT3 : mlT V K T m a b (sa S2 86 H) := by
        refine ⟨fun j hj x x1 x2 => ?_, fun j hj => ?_⟩
        · show H (256 * j + x) = _
          rw [hH, sbG_e k5 (by omega) _ 2000 (BT V K b) _ (by omega) (by omega) (Nat.and_self _) j x (by omega), r3.1 j hj x x1 x2, cv_upd]
          by_cases hc : p = j ∧ (BT V K b &&& x) = x
          · rw [if_pos hc, if_pos ⟨hc.1.symm, sub_le hc.2, hc.2, x2⟩, nI_prd (by omega), Nat.add_sub_cancel]
          · rw [if_neg hc, if_neg (fun r => hc ⟨r.1.symm, r.2.2.1⟩)]
            rfl
        · show S2.2.2.1 84 j = _
          rw [r3.2 j (by omega)]
          unfold updN
          rw [if_neg (by omega)]
      obtain ⟨S4, q1, q2, q3, q4⟩ := ih (p + 1) g _ _ (by omega) (by omega) (mlS_e hS hE3) hT3 (show mlA V K (sa S2 86 H) (dStep V K T ix m b o r a p c) by
        unfold dStep
        rw [if_pos hd]
        exact r4)
      refine ⟨S4, ?_, mlE_t hE3 q2, q3, q4⟩
      have bt : ¬ bi true = 0 := by decide
      rw [rB2_e, rLet_eq, if_neg bt, wf_60_35, bs, wt_84 b56, bs, nI_1, nI_1, jmax_nn (by omega) (by omega), r1, bs, wf_60_4, bs, wa_61 b56, bs, hS2.2.2.2.2.1 b hb, d128]
      exact q1
    · rw [if_neg hd]
      obtain ⟨S4, q1, q2, q3, q4⟩ := ih (p + 1) g S _ (by omega) (by omega) hS hT (show mlA V K S (dStep V K T ix m b o r a p c) by
        unfold dStep
        rw [if_neg hd]
        exact hA)
      refine ⟨S4, ?_, q2, q3, q4⟩
      have bt : bi false = 0 := by decide
      rw [rB2_e, rLet_eq, if_pos bt, nI_1]
      exact q1
theorem dl24 {S : rSt} {n : Nat} (hM : S.1 60 3 = nI n) (hn : n ≤ 56) (K53 : rW → Option rW) : J_X10_deals_24 60 K53 2000 0 (Wd S) = K53 (Wd (sa S 85 (fun j => if j < n then S.2.2.1 84 j else S.2.2.1 85 j))) := by
  have e0 := nI_refl (n := n) (by omega)
  have k2 := loopS (fun f g i => J_X10_deals_24 60 K53 f (nI i) (Wd (sa S 85 g))) (fun g => K53 (Wd (sa S 85 g))) (fun j g => upd g j (S.2.2.1 84 j)) n (fun f g => by
      rw [J_X10_deals_24, wf_60_3, bs]
      show (if S.1 60 3 ≤ nI n then _ else _) = _
      rw [hM, if_pos e0]) (fun f g i hi => by
      have m84 : (sa S 85 g).2.2.1 84 = S.2.2.1 84 := by rw [ra_a, if_neg (by decide)]
      have m85 : (sa S 85 g).2.2.1 85 = g := by rw [ra_a, if_pos rfl]
      rw [J_X10_deals_24, wf_60_3, bs]
      show (if S.1 60 3 ≤ nI i then _ else _) = _
      rw [hM, if_neg (nI_ge hi (by omega)), wf_60_36, bs, wf_60_35, bs, wa_84 (show i < 56 by omega), bs, wt_85 (show i < 56 by omega), bs, rLet_eq, nI_1, sa_ss, m84, m85]) n 2000 (S.2.2.1 85) 0 (by omega) (by omega)
  rw [rF_pt (fun j _ => S.2.2.1 84 j)] at k2
  simp only [sa_id, nI_0, Nat.zero_le, true_and, Nat.zero_add] at k2
  exact k2
theorem dl_rec {V K T ix m : Nat} (hk : Ok3 V K T) (h6 : V ≤ 6) (h20 : MB V K ≤ 20) (hm : m ≤ 6) (h7 : ix ≤ 7) (hall : dAll V K T = ix * m) : ∀ r F b o a c S, b + r = MB V K → r < F → o ≤ m → (∀ j, j < b → a j < o) → Iv V K T ix m a b → mlS V K T S → mlT V K T m a b S → mlA V K S c → ∃ S1, J_X10_deals F 60 (nI b) (nI o) (nI m) (nI ix) (Wd S) = some (Wd S1) ∧ mlE S S1 ∧ mlT V K T m a b S1 ∧ mlA V K S1 (dSr V K T ix m r b o a c) := by
  intro r
  induction r with
  | zero =>
    intro F b o a c S hb hF ho ha hI hS hT hA
    obtain ⟨g, rfl⟩ : ∃ g, F = g + 1 := ⟨F - 1, by omega⟩
    have hb' : b = MB V K := by omega
    subst hb'
    have hmo := all_begun hk h6 hall ha ho hI
    have m3 := hS.2.2.2.1
    rw [J_X10_deals, wr_60, wf_60_3, bs, m3, if_pos rfl, if_pos (nI_le hmo (by omega)), wf_60_38, bs, rLet_eq]
    show ∃ S1, _ ∧ mlE S S1 ∧ mlT V K T m a (MB V K) S1 ∧ mlA V K S1 (dLeaf a c)
    unfold dLeaf
    by_cases h : S.1 60 38 = 0
    · rw [if_pos h, if_pos (hA.1.symm.trans h), dl24 m3 (by omega)]
      refine ⟨si (sa S 85 (fun j => if j < MB V K then S.2.2.1 84 j else S.2.2.1 85 j)) 60 38 (S.1 60 38 + 1), ?_, mlE_t (mlE_85 S _) (mlE_i _ _), hT, ?_, fun _ j hj => ?_⟩
      · simp only [wf_60_38, bs, wp_60_38]
        rfl
      · show S.1 60 38 + 1 = c.1 + 1
        rw [hA.1]
      · show (if j < MB V K then S.2.2.1 84 j else S.2.2.1 85 j) = nI (a j)
        rw [if_pos hj]
        exact hT.2 j hj
    · rw [if_neg h, if_neg (fun q => h (hA.1.trans q))]
      refine ⟨si S 60 38 (S.1 60 38 + 1), ?_, mlE_i _ _, hT, ?_, fun _ j hj => hA.2 (fun q => h (hA.1.trans q)) j hj⟩
      · simp only [wf_60_38, bs, wp_60_38]
      · show S.1 60 38 + 1 = c.1 + 1
        rw [hA.1]
  | succ r ih =>
    intro F b o a c S hb hF ho ha hI hS hT hA
    obtain ⟨g, rfl⟩ : ∃ g, F = g + 1 := ⟨F - 1, by omega⟩
    have e1 : ¬ nI b = nI (MB V K) := fun q => by have := nI_inj (by omega) (by omega) q; omega
    rw [J_X10_deals, wr_60, wf_60_3, bs, hS.2.2.2.1, if_neg e1]
    refine ml_loop (r := r) hk h6 h20 hm h7 (by omega) a hI (J_X10_deals g) (fun p S c pm po hd h1 h2 h3 => ih g (b + 1) (max o (p + 1)) (updN a b p) c S (by omega) (by omega) (by omega) (fun j hj => ?_) (Iv_s hI hd) h1 h2 h3) ho (min (o + 1) m) 0 2000 S c (by omega) (by omega) hS hT hA
    unfold updN
    by_cases h : j = b
    · rw [if_pos h]
      omega
    · rw [if_neg h]
      have := ha j (by omega)
      omega

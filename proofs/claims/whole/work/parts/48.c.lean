/-! PARTINGS: the model -/
theorem sb2 : ∀ B, B < 64 → ∀ x, x < 64 → ∀ y, y < x → (B &&& x) = x → (B &&& y) = y → y ≤ ((x - 1) &&& B) := by decide +kernel
theorem sb1 (B x : Nat) : (B &&& ((x - 1) &&& B)) = ((x - 1) &&& B) := by
  rw [Nat.and_comm B, Nat.and_assoc, Nat.and_self]
theorem sb_lt {B x : Nat} (h : 0 < x) : ((x - 1) &&& B) < x := by
  have : ((x - 1) &&& B) ≤ x - 1 := Nat.and_le_left
  omega
theorem sb_nx {x B : Nat} (h : 0 < x) (hx : x < 64) (hB : B < 64) : (nI x - 1) &&& nI B = nI ((x - 1) &&& B) := by
  rw [nI_prd (by omega), an_i (by omega) (by omega)]
theorem ix86 (p x : Nat) : ((256 : Int32) * nI p) + nI x = nI (256 * p + x) := by
  have e : (256 : Int32) = nI 256 := by decide
  rw [e, pk_mul, nI_add]
theorem pV6 {V : Nat} (h6 : V ≤ 6) : 2 ^ V ≤ 64 := Nat.pow_le_pow_right (by decide) h6
def mlS (V K T : Nat) (S : rSt) : Prop := S.1 60 0 = nI V ∧ S.1 60 1 = nI K ∧ S.1 60 2 = nI T ∧ S.1 60 3 = nI (MB V K) ∧ IsB V K (S.2.2.1 61) (S.2.2.1 62)
theorem tk8 {V K T b p ix : Nat} {S : rSt} (hk : Ok3 V K T) (h6 : V ≤ 6) (hb : b < MB V K) (h20 : MB V K ≤ 20) (hp : p < 6) (hix : ix ≤ 7) (hS : mlS V K T S) {c : Nat → Nat} (hc : ∀ y, y < 2 ^ V → pc y = T → S.2.2.1 86 (256 * p + y) = nI (c y) ∧ c y ≤ 100) (K60 : Option (Bool × rW)) : ∀ f x, x < f → x < 2 ^ V → (BT V K b &&& x) = x → ((∃ y, y ≤ x ∧ (BT V K b &&& y) = y ∧ pc y = T ∧ c y = ix) → J_X10_takes_8 60 (nI b) (nI p) (nI ix) (Wd S) K60 f (nI x) = some (false, Wd S)) ∧ ((¬ ∃ y, y ≤ x ∧ (BT V K b &&& y) = y ∧ pc y = T ∧ c y = ix) → J_X10_takes_8 60 (nI b) (nI p) (nI ix) (Wd S) K60 f (nI x) = K60) := by
  obtain ⟨m0, m1, m2, m3, mB⟩ := hS
  obtain ⟨k1, k2, k3, k4, k5, k6⟩ := hk
  have hBT := (pr_lt (BT_in hb).1).1
  have h64 := pV6 h6
  have pc0 : pc 0 = 0 := rfl
  intro f
  induction f with
  | zero => intro x hx; exact absurd hx (Nat.not_lt_zero x)
  | succ f ih =>
    intro x hx xV hs
    by_cases h0 : x = 0
    · subst h0
      have e : nI 0 ≤ 0 := by decide
      refine ⟨fun ⟨y, y1, y2, y3, y4⟩ => ?_, fun _ => ?_⟩
      · have y0 : y = 0 := by omega
        rw [y0, pc0] at y3
        omega
      · rw [J_X10_takes_8, if_pos e]
    · have e : ¬ nI x ≤ 0 := nI_ge (a := 0) (b := x) (by omega) (by omega)
      have x64 : x < 64 := by omega
      have hlt := sb_lt (B := BT V K b) (show 0 < x by omega)
      have i := ih ((x - 1) &&& BT V K b) (by omega) (by omega) (sb1 _ _)
      have eT : (nI (pc x) = nI T) ↔ pc x = T := nI_eq (by have := pc_le x; omega) (by omega)
      have nx : (¬ (pc x = T ∧ c x = ix)) → ((∃ y, y ≤ x ∧ (BT V K b &&& y) = y ∧ pc y = T ∧ c y = ix) ↔ ∃ y, y ≤ ((x - 1) &&& BT V K b) ∧ (BT V K b &&& y) = y ∧ pc y = T ∧ c y = ix) := by
        intro h
        refine ⟨fun ⟨y, y1, y2, y3, y4⟩ => ⟨y, ?_, y2, y3, y4⟩, fun ⟨y, y1, r⟩ => ⟨y, by omega, r⟩⟩
        refine sb2 _ (by omega) x x64 y ?_ hs y2
        refine Nat.lt_of_le_of_ne y1 (fun q => h ?_)
        subst q
        exact ⟨y3, y4⟩
      have st : J_X10_takes_8 60 (nI b) (nI p) (nI ix) (Wd S) K60 (f + 1) (nI x) = if pc x = T ∧ c x = ix then some (false, Wd S) else J_X10_takes_8 60 (nI b) (nI p) (nI ix) (Wd S) K60 f (nI ((x - 1) &&& BT V K b)) := by
        rw [J_X10_takes_8, if_neg e, size60, bs, bc_n x (by omega), wf_60_2, bs, m2]
        simp only [rLet_eq, wf_60_4, bs, wf_60_37, wa_61 (show b < 56 by omega), mB.1 b hb, ix86, wa_86 (show 256 * p + x < 1536 by omega), sb_nx (show 0 < x by omega) x64 (show BT V K b < 64 by omega)]
        by_cases hp : pc x = T
        · obtain ⟨hc1, hc2⟩ := hc x xV hp
          rw [if_pos (eT.mpr hp), hc1]
          by_cases h : c x = ix
          · rw [if_pos (congrArg nI h), if_pos ⟨hp, h⟩]
          · rw [if_neg (fun q => h (nI_inj (by omega) (by omega) q)), if_neg (fun q => h q.2)]
        · rw [if_neg (fun q => hp (eT.mp q)), if_neg (fun q => hp q.1)]
      by_cases h : pc x = T ∧ c x = ix
      · refine ⟨fun _ => ?_, fun q => absurd ⟨x, Nat.le_refl _, hs, h.1, h.2⟩ q⟩
        rw [st, if_pos h]
      · refine ⟨fun q => ?_, fun q => ?_⟩
        · rw [st, if_neg h]
          exact i.1 ((nx h).mp q)
        · rw [st, if_neg h]
          exact i.2 (fun r => q ((nx h).mpr r))
def sbG (T B p : Nat) (h : Int32 → Int32) : Nat → Nat → (Nat → Int32) → (Nat → Int32)
  | 0, _, g => g
  | f + 1, x, g => if x = 0 then g else sbG T B p h f ((x - 1) &&& B) (if pc x = T then upd g (256 * p + x) (h (g (256 * p + x))) else g)
theorem sbG_e {T B p : Nat} (hT : 1 ≤ T) (hB : B < 64) (h : Int32 → Int32) : ∀ f x g, x < f → x < 64 → (B &&& x) = x → ∀ q y, y < 256 → sbG T B p h f x g (256 * q + y) = if q = p ∧ y ≤ x ∧ (B &&& y) = y ∧ pc y = T then h (g (256 * q + y)) else g (256 * q + y) := by
  intro f
  induction f with
  | zero => intro x g hx; exact absurd hx (Nat.not_lt_zero x)
  | succ f ih =>
    intro x g hx x64 hs q y hy
    rw [sbG]
    by_cases h0 : x = 0
    · subst h0
      rw [if_pos rfl, if_neg]
      rintro ⟨-, r1, -, r2⟩
      have y0 : y = 0 := by omega
      rw [y0] at r2
      have pc0 : pc 0 = 0 := rfl
      omega
    · have hlt := sb_lt (B := B) (show 0 < x by omega)
      rw [if_neg h0, ih _ _ (by omega) (by omega) (sb1 _ _) q y hy]
      have g1 : (if pc x = T then upd g (256 * p + x) (h (g (256 * p + x))) else g) (256 * q + y) = if (q = p ∧ y = x) ∧ pc x = T then h (g (256 * q + y)) else g (256 * q + y) := by
        by_cases hp : pc x = T
        · rw [if_pos hp, up_a]
          by_cases hq : 256 * q + y = 256 * p + x
          · rw [if_pos hq, if_pos ⟨by omega, hp⟩, hq]
          · rw [if_neg hq, if_neg (fun r => hq (by rw [r.1.1, r.1.2]))]
        · rw [if_neg hp, if_neg (fun r => hp r.2)]
      rw [g1]
      by_cases hq : q = p ∧ y = x
      · have nC : ¬ (q = p ∧ y ≤ ((x - 1) &&& B) ∧ (B &&& y) = y ∧ pc y = T) := fun r => by
          have r1 := r.2.1
          have r2 := hq.2
          omega
        rw [if_neg nC]
        by_cases hp : pc x = T
        · rw [if_pos ⟨hq, hp⟩, if_pos ⟨hq.1, by omega, by rw [hq.2]; exact hs, by rw [hq.2]; exact hp⟩]
        · rw [if_neg (fun r => hp r.2), if_neg (fun r => hp (by rw [← hq.2]; exact r.2.2.2))]
      · have nD : ¬ ((q = p ∧ y = x) ∧ pc x = T) := fun r => hq r.1
        rw [if_neg nD]
        have cond : (q = p ∧ y ≤ ((x - 1) &&& B) ∧ (B &&& y) = y ∧ pc y = T) ↔ (q = p ∧ y ≤ x ∧ (B &&& y) = y ∧ pc y = T) := by
          refine ⟨fun r => ⟨r.1, by have := r.2.1; omega, r.2.2⟩, fun r => ⟨r.1, ?_, r.2.2⟩⟩
          refine sb2 _ hB x x64 y ?_ hs r.2.2.1
          exact Nat.lt_of_le_of_ne r.2.1 (fun e => hq ⟨r.1, e⟩)
        by_cases hc : q = p ∧ y ≤ x ∧ (B &&& y) = y ∧ pc y = T
        · rw [if_pos hc, if_pos (cond.mpr hc)]
        · rw [if_neg hc, if_neg (fun r => hc (cond.mp r))]
theorem tk68 {V K T b p : Nat} {S : rSt} (hk : Ok3 V K T) (h6 : V ≤ 6) (hb : b < MB V K) (h20 : MB V K ≤ 20) (hp : p < 6) (hS : mlS V K T S) : ∀ f x g, x < f → x < 64 → J_X10_takes_68 60 (nI b) (nI p) f (nI x) (Wd (sa S 86 g)) = some (true, Wd (sa S 86 (sbG T (BT V K b) p (fun z => z + 1) f x g))) := by
  obtain ⟨m0, m1, m2, m3, mB⟩ := hS
  obtain ⟨k1, k2, k3, k4, k5, k6⟩ := hk
  have hBT := (pr_lt (BT_in hb).1).1
  have h64 := pV6 h6
  have m2' : ∀ g, (sa S 86 g).1 60 2 = nI T := fun _ => m2
  have m61 : ∀ g, (sa S 86 g).2.2.1 61 b = nI (BT V K b) := fun g => by rw [ra_a, if_neg (by decide)]; exact mB.1 b hb
  have m86 : ∀ g, (sa S 86 g).2.2.1 86 = g := fun g => by rw [ra_a, if_pos rfl]
  intro f
  induction f with
  | zero => intro x g hx; exact absurd hx (Nat.not_lt_zero x)
  | succ f ih =>
    intro x g hx x64
    rw [sbG]
    by_cases h0 : x = 0
    · subst h0
      have e : nI 0 ≤ 0 := by decide
      rw [if_pos rfl, J_X10_takes_68, if_pos e]
    · have e : ¬ nI x ≤ 0 := nI_ge (a := 0) (b := x) (by omega) (by omega)
      have hlt := sb_lt (B := BT V K b) (show 0 < x by omega)
      have eT : (nI (pc x) = nI T) ↔ pc x = T := nI_eq (by have := pc_le x; omega) (by omega)
      rw [if_neg h0, J_X10_takes_68, if_neg e, size60, bs, bc_n x (by omega), wf_60_2, bs, m2']
      simp only [rLet_eq, ix86]
      by_cases hp' : pc x = T
      · rw [if_pos hp', if_pos (eT.mpr hp'), wf_60_37, bs, wa_86 (show 256 * p + x < 1536 by omega), bs, wt_86 (show 256 * p + x < 1536 by omega), bs, sa_ss, m86, wf_60_4, bs, wa_61 (show b < 56 by omega), bs, m61, sb_nx (show 0 < x by omega) x64 (show BT V K b < 64 by omega)]
        exact ih _ _ (by omega) (by omega)
      · rw [if_neg hp', if_neg (fun q => hp' (eT.mp q)), wf_60_4, bs, wa_61 (show b < 56 by omega), bs, m61, sb_nx (show 0 < x by omega) x64 (show BT V K b < 64 by omega)]
        exact ih _ _ (by omega) (by omega)
theorem dl128 {V K T b p : Nat} {S : rSt} (hk : Ok3 V K T) (h6 : V ≤ 6) (hb : b < MB V K) (h20 : MB V K ≤ 20) (hp : p < 6) (hS : mlS V K T S) (K179 : rW → Option rW) : ∀ f x g, x < f → x < 64 → J_X10_deals_128 60 (nI b) (nI p) K179 f (nI x) (Wd (sa S 86 g)) = K179 (Wd (sa S 86 (sbG T (BT V K b) p (fun z => z - 1) f x g))) := by
  obtain ⟨m0, m1, m2, m3, mB⟩ := hS
  obtain ⟨k1, k2, k3, k4, k5, k6⟩ := hk
  have hBT := (pr_lt (BT_in hb).1).1
  have h64 := pV6 h6
  have m2' : ∀ g, (sa S 86 g).1 60 2 = nI T := fun _ => m2
  have m61 : ∀ g, (sa S 86 g).2.2.1 61 b = nI (BT V K b) := fun g => by rw [ra_a, if_neg (by decide)]; exact mB.1 b hb
  have m86 : ∀ g, (sa S 86 g).2.2.1 86 = g := fun g => by rw [ra_a, if_pos rfl]
  intro f
  induction f with
  | zero => intro x g hx; exact absurd hx (Nat.not_lt_zero x)
  | succ f ih =>
    intro x g hx x64
    rw [sbG]
    by_cases h0 : x = 0
    · subst h0
      have e : nI 0 ≤ 0 := by decide
      rw [if_pos rfl, J_X10_deals_128, if_pos e]
    · have e : ¬ nI x ≤ 0 := nI_ge (a := 0) (b := x) (by omega) (by omega)
      have hlt := sb_lt (B := BT V K b) (show 0 < x by omega)
      have eT : (nI (pc x) = nI T) ↔ pc x = T := nI_eq (by have := pc_le x; omega) (by omega)
      rw [if_neg h0, J_X10_deals_128, if_neg e, size60, bs, bc_n x (by omega), wf_60_2, bs, m2']
      simp only [rLet_eq, ix86]
      by_cases hp' : pc x = T
      · rw [if_pos hp', if_pos (eT.mpr hp'), wf_60_37, bs, wa_86 (show 256 * p + x < 1536 by omega), bs, wt_86 (show 256 * p + x < 1536 by omega), bs, sa_ss, m86, wf_60_4, bs, wa_61 (show b < 56 by omega), bs, m61, sb_nx (show 0 < x by omega) x64 (show BT V K b < 64 by omega)]
        exact ih _ _ (by omega) (by omega)
      · rw [if_neg hp', if_neg (fun q => hp' (eT.mp q)), wf_60_4, bs, wa_61 (show b < 56 by omega), bs, m61, sb_nx (show 0 < x by omega) x64 (show BT V K b < 64 by omega)]
        exact ih _ _ (by omega) (by omega)

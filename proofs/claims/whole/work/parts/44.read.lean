/-! A SET-UP IS READ AND DONE -/
def Rc (c : Nat) (S M : rSt) : Prop := ∀ j, j < c → ∃ k, k < 8 ∧ S.2.2.1 45 j = nI k ∧ M.2.2.1 73 j = nI k ∧ ∀ i, i < cntW k → S.2.2.1 46 (3 * j + i) = M.2.2.1 74 (3 * j + i)
def pE (S S1 : rSt) : Prop := (∀ a k, a ≠ 43 → S1.1 a k = S.1 a k) ∧ S1.1 43 1 = S.1 43 1 ∧ S1.2.1 = S.2.1 ∧ (∀ a, a ≠ 45 → a ≠ 46 → S1.2.2.1 a = S.2.2.1 a) ∧ S1.2.2.2 = S.2.2.2
def pG (M M1 : rSt) : Prop := (∀ a k, a ≠ 60 → M1.1 a k = M.1 a k) ∧ (∀ k, k ≠ 20 → k ≠ 23 → M1.1 60 k = M.1 60 k) ∧ M1.2.1 = M.2.1 ∧ (∀ a, a ≠ 73 → a ≠ 74 → M1.2.2.1 a = M.2.2.1 a) ∧ M1.2.2.2 = M.2.2.2
theorem pE_t {S S1 S2 : rSt} (h : pE S S1) (g : pE S1 S2) : pE S S2 := ⟨fun a k ha => (g.1 a k ha).trans (h.1 a k ha), g.2.1.trans h.2.1, g.2.2.1.trans h.2.2.1, fun a h1 h2 => (g.2.2.2.1 a h1 h2).trans (h.2.2.2.1 a h1 h2), g.2.2.2.2.trans h.2.2.2.2⟩
theorem pG_t {S S1 S2 : rSt} (h : pG S S1) (g : pG S1 S2) : pG S S2 := ⟨fun a k ha => (g.1 a k ha).trans (h.1 a k ha), fun k h1 h2 => (g.2.1 k h1 h2).trans (h.2.1 k h1 h2), g.2.2.1.trans h.2.2.1, fun a h1 h2 => (g.2.2.2.1 a h1 h2).trans (h.2.2.2.1 a h1 h2), g.2.2.2.2.trans h.2.2.2.2⟩
theorem pE_i (S : rSt) (k : Nat) (x : Int32) (h : k ≠ 1) : pE S (si S 43 k x) := by
  refine ⟨fun a j ha => ?_, ?_, rfl, fun _ _ _ => rfl, rfl⟩
  · rw [ri_i, if_neg ha]
  · rw [ri_i, if_pos rfl, if_neg (fun q => h q.symm)]
theorem pE_a (S : rSt) (b : Nat) (f : Nat → Int32) (h : b = 45 ∨ b = 46) : pE S (sa S b f) := by
  refine ⟨fun _ _ _ => rfl, rfl, rfl, fun a h1 h2 => ?_, rfl⟩
  rw [ra_a, if_neg (by omega)]
theorem pG_i (S : rSt) (k : Nat) (x : Int32) (h : k = 20 ∨ k = 23) : pG S (si S 60 k x) := by
  refine ⟨fun a j ha => ?_, fun j h1 h2 => ?_, rfl, fun _ _ _ => rfl, rfl⟩
  · rw [ri_i, if_neg ha]
  · rw [ri_i, if_pos rfl, if_neg (by omega)]
theorem pG_a (S : rSt) (b : Nat) (f : Nat → Int32) (h : b = 73 ∨ b = 74) : pG S (sa S b f) := by
  refine ⟨fun _ _ _ => rfl, fun _ _ _ => rfl, rfl, fun a h1 h2 => ?_, rfl⟩
  rw [ra_a, if_neg (by omega)]
def clB (f : Nat) (x : Int32) (w : rW) : Option (Int32 × rW) := rB2 (J_X4_parseClause 43 x w) fun b7 w8 => if (bi b7) = 0 then (gI w8 43 4 5).bind fun v15 => some (v15, w8) else (gI w8 43 4 5).bind fun v10 => (gI w8 43 4 1).bind fun v11 => if v10 = v11 then (pF w8 43 4 4 (.int (x + 1))).bind fun w14 => some ((-1), w14) else rLet (x + 1) fun v13 => J_X4_parse_12 43 f v13 w8
theorem parse_12 (f : Nat) (x : Int32) (w : rW) : J_X4_parse_12 43 (f + 1) x w = if 12 ≤ x then (gI w 43 4 5).bind fun v4 => some (v4, w) else if x ≤ 0 then clB f x w else rB2 (J_X4_passSign 43 59 w) fun b18 w19 => if (bi b18) = 0 then (gI w19 43 4 5).bind fun v21 => some (v21, w19) else clB f x w19 := Eq.trans (by rw [J_X4_parse_12]; rfl) rfl
theorem pwF_w (t : Nat → Int32) (n a : Nat) : ∀ m k x, k + m = 8 → (pwF t n a m k x).1 = -1 ∨ ∃ q, q < 8 ∧ (pwF t n a m k x).1 = nI q := by
  intro m
  induction m with
  | zero => intro k x _; exact Or.inl rfl
  | succ m ih =>
    intro k x h
    rw [pwF]
    split
    · exact Or.inr ⟨k, by omega, rfl⟩
    · exact ih (k + 1) _ (by omega)
/-- the class's clause; the model's -/
theorem clause43 {t : Nat → Int32} {n a c : Nat} {S : rSt} (h : TS t n a S) (hc : c < 12) : ((pwF t n a 8 0 0).1 = -1 ∧ J_X4_parseClause 43 (nI c) (Wd S) = some (false, Wd (si S 43 5 (nI (pwF t n a 8 0 0).2)))) ∨ ∃ k, k < 8 ∧ (pwF t n a 8 0 0).1 = nI k ∧ J_X4_parseClause 43 (nI c) (Wd S) = some ((nuF t n (cntW k) (pwF t n a 8 0 0).2).1, Wd (sa (si (sa (si S 43 5 (nI (pwF t n a 8 0 0).2)) 45 (upd (S.2.2.1 45) c (nI k))) 43 5 (nI (nuF t n (cntW k) (pwF t n a 8 0 0).2).2.1)) 46 (wrN (S.2.2.1 46) (3 * c) (nuF t n (cntW k) (pwF t n a 8 0 0).2).2.2))) := by
  have e1 := parseWord43 h
  obtain ⟨i1, i2⟩ := pwF_le (t := t) h.2.1 8 0 0 (by have := h.2.1; omega) (by omega)
  rcases pwF_w t n a 8 0 0 (by omega) with h1 | ⟨k, hk, h1⟩
  · refine Or.inl ⟨h1, ?_⟩
    unfold J_X4_parseClause
    rw [wr_43, e1, rB2_e, h1, if_neg (by decide)]
  · refine Or.inr ⟨k, hk, h1, ?_⟩
    have h' : TS t n (pwF t n a 8 0 0).2 (sa (si S 43 5 (nI (pwF t n a 8 0 0).2)) 45 (upd (S.2.2.1 45) c (nI k))) := by
      obtain ⟨g1, g2, g3, g4, g5⟩ := h
      exact ⟨g1, i2, g3, rfl, g5⟩
    have e2 := nums43 hk hc (cntW k) 2000 0 _ _ h' (by omega) (by have := cntW_le k; omega)
    rw [nI_0, Nat.add_zero] at e2
    unfold J_X4_parseClause
    rw [wr_43, e1, rB2_e, h1, if_pos (nI_pos' (by omega)), wf_43_2, bs, wt_45 hc, bs]
    exact e2
theorem cl60 {t : Nat → Int32} {n a c : Nat} {M : rSt} (h : TM t n a M) (h23 : M.1 60 23 = nI c) (hc : c < 12) (f : Nat) : ((pwF t n a 8 0 0).1 = -1 → J_X10_reads_10 60 (f + 1) (Wd M) = some (false, Wd (si M 60 20 (nI (pwF t n a 8 0 0).2)))) ∧ ∀ k, k < 8 → (pwF t n a 8 0 0).1 = nI k → ∃ M1, M1 = sa (si (sa (si M 60 20 (nI (pwF t n a 8 0 0).2)) 73 (upd (M.2.2.1 73) c (nI k))) 60 20 (nI (nuF t n (cntW k) (pwF t n a 8 0 0).2).2.1)) 74 (wrN (M.2.2.1 74) (3 * c) (nuF t n (cntW k) (pwF t n a 8 0 0).2).2.2) ∧ J_X10_reads_10 60 (f + 1) (Wd M) = if (nuF t n (cntW k) (pwF t n a 8 0 0).2).1 = true then (if (nuF t n (cntW k) (pwF t n a 8 0 0).2).2.1 = n then some (true, Wd (si M1 60 23 (nI (c + 1)))) else if (nuF t n (cntW k) (pwF t n a 8 0 0).2).2.1 < n ∧ t (nuF t n (cntW k) (pwF t n a 8 0 0).2).2.1 = 59 then (if c + 1 = 12 then some (false, Wd (si M1 60 23 (nI (c + 1)))) else J_X10_reads_10 60 f (Wd (si (si M1 60 23 (nI (c + 1))) 60 20 (nI ((nuF t n (cntW k) (pwF t n a 8 0 0).2).2.1 + 1))))) else some (false, Wd (si M1 60 23 (nI (c + 1))))) else some (false, Wd M1) := by
  have e1 := what60 h
  obtain ⟨i1, i2⟩ := pwF_le (t := t) h.2.1 8 0 0 (by have := h.2.1; omega) (by omega)
  refine ⟨fun h1 => ?_, fun k hk h1 => ⟨_, rfl, ?_⟩⟩
  · rw [J_X10_reads_10, e1, rB2_e, h1, if_neg (by decide)]
  · obtain ⟨j1, j2, j3⟩ := nuF_le (t := t) (n := n) (cntW k) _ i2
    have h' : TM t n (pwF t n a 8 0 0).2 (sa (si M 60 20 (nI (pwF t n a 8 0 0).2)) 73 (upd (M.2.2.1 73) c (nI k))) := by
      obtain ⟨g1, g2, g3, g4, g5⟩ := h
      exact ⟨g1, i2, g3, rfl, g5⟩
    have e23 : (si M 60 20 (nI (pwF t n a 8 0 0).2)).1 60 23 = nI c := h23
    have e2 := fun K' => nums60 hk hc K' (cntW k) 2000 0 _ _ h' h23 (by omega) (by have := cntW_le k; omega)
    simp only [nI_0, Nat.add_zero] at e2
    rw [J_X10_reads_10, e1, rB2_e, h1, if_pos (nI_pos' (by omega)), wf_60_21, bs, wf_60_23, bs, e23, wt_73 hc, bs, rLet_eq]
    refine (e2 _).trans ?_
    have rd : (sa (si M 60 20 (nI (pwF t n a 8 0 0).2)) 73 (upd (M.2.2.1 73) c (nI k))).2.2.1 74 = M.2.2.1 74 := rfl
    rw [rd]
    generalize hM1 : sa (si (sa (si M 60 20 (nI (pwF t n a 8 0 0).2)) 73 (upd (M.2.2.1 73) c (nI k))) 60 20 (nI (nuF t n (cntW k) (pwF t n a 8 0 0).2).2.1)) 74 (wrN (M.2.2.1 74) (3 * c) (nuF t n (cntW k) (pwF t n a 8 0 0).2).2.2) = M1
    have k23 : M1.1 60 23 = nI c := by rw [← hM1]; exact h23
    have k20 : M1.1 60 20 = nI (nuF t n (cntW k) (pwF t n a 8 0 0).2).2.1 := by rw [← hM1]; rfl
    have k19 : M1.1 60 19 = nI n := by rw [← hM1]; exact h.2.2.1
    have hT : TM t n (nuF t n (cntW k) (pwF t n a 8 0 0).2).2.1 (si M1 60 23 (nI (c + 1))) := by
      obtain ⟨g1, g2, g3, g4, g5⟩ := h
      refine ⟨g1, j2, k19, k20, ?_⟩
      rw [← hM1]
      exact g5
    generalize nuF t n (cntW k) (pwF t n a 8 0 0).2 = r at j1 j2 j3 k20 hT ⊢
    by_cases d : r.1 = true
    · rw [if_pos d, if_pos d, wf_60_23, bs, k23, nI_1, wp_60_23, bs]
      have q20 : (si M1 60 23 (nI (c + 1))).1 60 20 = nI r.2.1 := k20
      have q19 : (si M1 60 23 (nI (c + 1))).1 60 19 = nI n := k19
      have q23 : (si M1 60 23 (nI (c + 1))).1 60 23 = nI (c + 1) := rfl
      have hn := h.1
      rw [wf_60_20, bs, wf_60_19, bs, q20, q19, sign60 hT]
      have e3 : nI r.2.1 = nI n ↔ r.2.1 = n := nI_eq (by omega) (by omega)
      by_cases d2 : r.2.1 = n
      · rw [if_pos (e3.mpr d2), if_pos d2]
      · rw [if_neg (fun q => d2 (e3.mp q)), if_neg d2, bs]
        by_cases d3 : r.2.1 < n ∧ t r.2.1 = 59
        · have e4 : nI (c + 1) = 12 ↔ c + 1 = 12 := nI_eq (b := 12) (by omega) (by decide)
          rw [if_pos ((sgV_iff (by decide)).mpr d3), if_pos d3, wf_60_23, bs, q23]
          by_cases d4 : c + 1 = 12
          · rw [if_pos (e4.mpr d4), if_pos d4]
          · rw [if_neg (fun q => d4 (e4.mp q)), if_neg d4, bs, nI_1, wp_60_20, bs]
        · rw [if_neg (fun q => d3 ((sgV_iff (by decide)).mp q)), if_neg d3]
    · rw [if_neg d, if_neg d]
theorem nI_neg1 {k : Nat} (h : k < 2 ^ 31) : ¬ nI k = -1 := fun q => absurd (nI_pos' h) (by rw [q]; decide)
theorem parse_sim {t : Nat → Int32} {n : Nat} : ∀ m c f f' a S M, c + m = 12 → 1 ≤ m → TS t n a S → TM t n a M → M.1 60 23 = nI c → Rc c S M → m < f → m < f' → ∃ r S1 M1, clB f (nI c) (Wd S) = some (r, Wd S1) ∧ J_X10_reads_10 60 f' (Wd M) = some (decide (r < 0), Wd M1) ∧ pE S S1 ∧ pG M M1 ∧ ((r = -1 ∧ ∃ c', c' ≤ 12 ∧ S1.1 43 4 = nI c' ∧ M1.1 60 23 = nI c' ∧ Rc c' S1 M1) ∨ ∃ b, b ≤ n ∧ r = nI b ∧ M1.1 60 20 = nI b) := by
  intro m
  induction m with
  | zero => intro c f f' a S M _ h; omega
  | succ m ih =>
    intro c f f' a S M hcm _ hS hM h23 hRc hf hf'
    obtain ⟨f, rfl⟩ : ∃ q, f = q + 1 := ⟨f - 1, by omega⟩
    obtain ⟨f', rfl⟩ : ∃ q, f' = q + 1 := ⟨f' - 1, by omega⟩
    have hc : c < 12 := by omega
    have n100 := hS.1
    obtain ⟨i1, i2⟩ := pwF_le (t := t) hS.2.1 8 0 0 (by have := hS.2.1; omega) (by omega)
    have g := cl60 hM h23 hc f'
    have dneg : ∀ b : Nat, b ≤ n → decide (nI b < 0) = false := fun b hb => decide_eq_false (nI_pos (by omega))
    rcases clause43 hS hc with ⟨h1, e1⟩ | ⟨k, hk, h1, e1⟩
    · refine ⟨nI (pwF t n a 8 0 0).2, si S 43 5 (nI (pwF t n a 8 0 0).2), si M 60 20 (nI (pwF t n a 8 0 0).2), ?_, ?_, pE_i S 5 _ (by decide), pG_i M 20 _ (Or.inl rfl), Or.inr ⟨_, i2, rfl, rfl⟩⟩
      · unfold clB
        rw [e1, rB2_e, if_pos (by decide), wf_43_5, bs]
        rfl
      · rw [g.1 h1, dneg _ i2]
    · obtain ⟨M1, hM1, e2⟩ := g.2 k hk h1
      obtain ⟨j1, j2, j3⟩ := nuF_le (t := t) (n := n) (cntW k) _ i2
      have x2 : ∃ S1, S1 = sa (si (sa (si S 43 5 (nI (pwF t n a 8 0 0).2)) 45 (upd (S.2.2.1 45) c (nI k))) 43 5 (nI (nuF t n (cntW k) (pwF t n a 8 0 0).2).2.1)) 46 (wrN (S.2.2.1 46) (3 * c) (nuF t n (cntW k) (pwF t n a 8 0 0).2).2.2) := ⟨_, rfl⟩
      obtain ⟨S1, hS1⟩ := x2
      rw [← hS1] at e1
      have s5 : S1.1 43 5 = nI (nuF t n (cntW k) (pwF t n a 8 0 0).2).2.1 := by rw [hS1]; rfl
      have s1 : S1.1 43 1 = nI n := by rw [hS1]; exact hS.2.2.1
      have s45 : S1.2.2.1 45 = upd (S.2.2.1 45) c (nI k) := by rw [hS1]; rfl
      have s46 : S1.2.2.1 46 = wrN (S.2.2.1 46) (3 * c) (nuF t n (cntW k) (pwF t n a 8 0 0).2).2.2 := by rw [hS1]; rfl
      have m73 : M1.2.2.1 73 = upd (M.2.2.1 73) c (nI k) := by rw [hM1]; rfl
      have m74 : M1.2.2.1 74 = wrN (M.2.2.1 74) (3 * c) (nuF t n (cntW k) (pwF t n a 8 0 0).2).2.2 := by rw [hM1]; rfl
      have m20 : M1.1 60 20 = nI (nuF t n (cntW k) (pwF t n a 8 0 0).2).2.1 := by rw [hM1]; rfl
      have fS : pE S S1 := by
        rw [hS1]
        exact pE_t (pE_i S 5 _ (by decide)) (pE_t (pE_a _ 45 _ (Or.inl rfl)) (pE_t (pE_i _ 5 _ (by decide)) (pE_a _ 46 _ (Or.inr rfl))))
      have fM : pG M M1 := by
        rw [hM1]
        exact pG_t (pG_i M 20 _ (Or.inl rfl)) (pG_t (pG_a _ 73 _ (Or.inl rfl)) (pG_t (pG_i _ 20 _ (Or.inl rfl)) (pG_a _ 74 _ (Or.inr rfl))))
      have hT1 : TS t n (nuF t n (cntW k) (pwF t n a 8 0 0).2).2.1 S1 := by
        obtain ⟨g1, g2, g3, g4, g5⟩ := hS
        refine ⟨g1, j2, s1, s5, fun j hj => ?_⟩
        rw [fS.2.2.2.1 44 (by decide) (by decide)]
        exact g5 j hj
      have hRc' : (nuF t n (cntW k) (pwF t n a 8 0 0).2).1 = true → Rc (c + 1) S1 M1 := by
        intro ok j hj
        by_cases hjc : j = c
        · subst hjc
          refine ⟨k, hk, by rw [s45, up_s], by rw [m73, up_s], fun i hi => ?_⟩
          rw [s46, m74, wrN_in _ _ _ _ (by rw [j3 ok]; exact hi), wrN_in _ _ _ _ (by rw [j3 ok]; exact hi)]
        · obtain ⟨q, a1, a2, a3, a4⟩ := hRc j (by omega)
          refine ⟨q, a1, by rw [s45, up_n hjc]; exact a2, by rw [m73, up_n hjc]; exact a3, fun i hi => ?_⟩
          have := cntW_le q
          rw [s46, m74, wrN_out _ _ _ _ (by omega), wrN_out _ _ _ _ (by omega)]
          exact a4 i hi
      generalize nuF t n (cntW k) (pwF t n a 8 0 0).2 = r at e1 e2 s5 m20 hT1 hRc' j2
      by_cases d : r.1 = true
      · have hRc1 := hRc' d
        rw [if_pos d] at e2
        rw [d] at e1
        have e3 : nI r.2.1 = nI n ↔ r.2.1 = n := nI_eq (by omega) (by omega)
        have fM23 : pG M (si M1 60 23 (nI (c + 1))) := pG_t fM (pG_i _ 23 _ (Or.inr rfl))
        have start : clB (f + 1) (nI c) (Wd S) = if r.2.1 = n then some (-1, Wd (si S1 43 4 (nI (c + 1)))) else J_X4_parse_12 43 (f + 1) (nI (c + 1)) (Wd S1) := by
          unfold clB
          rw [e1, rB2_e, if_neg (by decide), wf_43_5, bs, wf_43_1, bs, s5, s1]
          by_cases d2 : r.2.1 = n
          · rw [if_pos (e3.mpr d2), if_pos d2, nI_1, wp_43_4, bs]
          · rw [if_neg (fun q => d2 (e3.mp q)), if_neg d2, rLet_eq, nI_1]
        rw [start]
        by_cases d2 : r.2.1 = n
        · rw [if_pos d2] at e2 ⊢
          refine ⟨-1, _, _, rfl, e2, pE_t fS (pE_i _ 4 _ (by decide)), fM23, Or.inl ⟨rfl, c + 1, by omega, rfl, rfl, ?_⟩⟩
          exact hRc1
        · rw [if_neg d2] at e2 ⊢
          rw [parse_12]
          by_cases d5 : c + 1 = 12
          · have e5 : (12 : Int32) ≤ nI (c + 1) := nI_le (a := 12) (by omega) (by omega)
            rw [if_pos e5, wf_43_5, bs, s5]
            have e6 : J_X10_reads_10 60 (f' + 1) (Wd M) = some (false, Wd (si M1 60 23 (nI (c + 1)))) := by
              rw [e2]
              by_cases d3 : r.2.1 < n ∧ t r.2.1 = 59
              · rw [if_pos d3, if_pos d5]
              · rw [if_neg d3]
            exact ⟨_, _, _, rfl, by rw [dneg _ j2]; exact e6, fS, fM23, Or.inr ⟨_, j2, rfl, m20⟩⟩
          · have e5 : ¬ (12 : Int32) ≤ nI (c + 1) := nI_ge (b := 12) (by omega) (by decide)
            rw [if_neg e5, if_neg (nI_nle (by omega) (by omega)), passSign43 hT1]
            by_cases d3 : r.2.1 < n ∧ t r.2.1 = 59
            · rw [if_pos d3, if_neg d5] at e2
              rw [if_pos d3, rB2_e, if_neg (by decide)]
              have hM2 : TM t n (r.2.1 + 1) (si (si M1 60 23 (nI (c + 1))) 60 20 (nI (r.2.1 + 1))) := by
                obtain ⟨g1, g2, g3, g4, g5⟩ := hM
                refine ⟨g1, by omega, ?_, rfl, fun j hj => ?_⟩
                · show M1.1 60 19 = _
                  rw [fM.2.1 19 (by decide) (by decide)]
                  exact g3
                · show M1.2.2.1 72 j = _
                  rw [fM.2.2.2.1 72 (by decide) (by decide)]
                  exact g5 j hj
              obtain ⟨r', S2, M2, b1, b2, b3, b4, b5⟩ := ih (c + 1) f f' (r.2.1 + 1) (si S1 43 5 (nI (r.2.1 + 1))) (si (si M1 60 23 (nI (c + 1))) 60 20 (nI (r.2.1 + 1))) (by omega) (by omega) (TS_at hT1 (by omega)) hM2 rfl hRc1 (by omega) (by omega)
              exact ⟨r', S2, M2, b1, by rw [e2]; exact b2, pE_t fS (pE_t (pE_i _ 5 _ (by decide)) b3), pG_t fM23 (pG_t (pG_i _ 20 _ (Or.inl rfl)) b4), b5⟩
            · rw [if_neg d3] at e2
              rw [if_neg d3, rB2_e, if_pos (by decide), wf_43_5, bs, s5]
              exact ⟨_, _, _, rfl, by rw [dneg _ j2]; exact e2, fS, fM23, Or.inr ⟨_, j2, rfl, m20⟩⟩
      · have d' : r.1 = false := by simpa using d
        rw [if_neg d] at e2
        rw [d'] at e1
        refine ⟨nI r.2.1, S1, M1, ?_, by rw [dneg _ j2]; exact e2, fS, fM, Or.inr ⟨_, j2, rfl, m20⟩⟩
        unfold clB
        rw [e1, rB2_e, if_pos (by decide), wf_43_5, bs, s5]

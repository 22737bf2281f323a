/-! THE LAW: printed by program (wip/gen/gen50.py) -/
theorem Op_2 {A B : oP} (h : Op A B) {V K T : Nat} {S : rSt} (g : R V K T S S) : ∃ r S1 V' K' T' S2, A (Wd S) = some (r, Wd S1) ∧ B (Wd S1) = some (r, Wd S2) ∧ R V' K' T' S2 S2 := Op_1 h g
theorem OpW_1 {A : rW → Option Int32} {B : oP} (h : OpW A B) {V K T : Nat} {S : rSt} (g : R V K T S S) : ∃ r S2, A (Wd S) = some r ∧ B (Wd S) = some (r, Wd S2) ∧ R V K T S2 S2 := by
  obtain ⟨r, M1, e1, e2, e3, e4⟩ := h V K T S S g
  exact ⟨r, M1, e1, e2, R_c e3 e4⟩
theorem sGet_n {L i : Nat} (xs : Nat → Int32) (hi : i < L) (hL : L ≤ 3072) : sGet L xs (nI i) = some (xs i) := by
  unfold sGet
  rw [if_neg, nI_clamp (by omega)]
  rintro (h | h)
  · exact nI_pos (by omega) h
  · rw [nI_clamp (by omega)] at h
    omega
set_option maxHeartbeats 8000000 in
set_option maxRecDepth 20000 in
theorem law_step {L i : Nat} (hL : L ≤ 3072) (hi : i + 6 ≤ L) (xs : Nat → Int32) (f : Nat) {V K T : Nat} {S : rSt} (g : R V K T S S) : ∃ S2 V' K' T', R V' K' T' S2 S2 ∧ J_L_law_18 L xs 0 60 (f + 1) (nI i) (Wd S) = J_L_law_18 L xs 0 60 f (nI (i + 6)) (Wd S2) := by
  have x1 : sGet L xs (nI i + 1) = some (xs (i + 1)) := by rw [show nI i + 1 = nI (i + 1) from nI_add i 1]; exact sGet_n xs (by omega) hL
  have x2 : sGet L xs (nI i + 2) = some (xs (i + 2)) := by rw [show nI i + 2 = nI (i + 2) from nI_add i 2]; exact sGet_n xs (by omega) hL
  have x3 : sGet L xs (nI i + 3) = some (xs (i + 3)) := by rw [show nI i + 3 = nI (i + 3) from nI_add i 3]; exact sGet_n xs (by omega) hL
  have x4 : sGet L xs (nI i + 4) = some (xs (i + 4)) := by rw [show nI i + 4 = nI (i + 4) from nI_add i 4]; exact sGet_n xs (by omega) hL
  have x5 : sGet L xs (nI i + 5) = some (xs (i + 5)) := by rw [show nI i + 5 = nI (i + 5) from nI_add i 5]; exact sGet_n xs (by omega) hL
  have x0 : sGet L xs (nI i) = some (xs i) := sGet_n xs (by omega) hL
  have h6 : nI i + 6 = nI (i + 6) := nI_add i 6
  have ht : ¬ (nI L - 6) < nI i := by rw [show nI L - 6 = nI (L - 6) from pk_sub (a := L) (b := 6) (by omega)]; exact nI_nlt (by omega) (by omega)
  rw [J_L_law_18, rLet_eq, if_neg ht, x0, bs, rLet_eq]
  by_cases c0 : (xs i &&& 63) = 0
  · obtain ⟨r, S1, V', K', T', S2, e1, e2, e3⟩ := Op_2 (op_size (xs (i + 1)) (xs (i + 2)) (xs (i + 3))) g
    refine ⟨S2, V', K', T', e3, ?_⟩
    rw [if_pos c0]
    simp only [x1, x2, x3, x4, x5, bs, e1, e2, rB2_e, eq_self, if_true, rLet_eq, h6]
  rw [if_neg c0]
  by_cases c1 : (xs i &&& 63) = 1
  · obtain ⟨r, S1, V', K', T', S2, e1, e2, e3⟩ := Op_2 (op_count (xs (i + 1)) (xs (i + 2))) g
    refine ⟨S2, V', K', T', e3, ?_⟩
    rw [if_pos c1]
    simp only [x1, x2, x3, x4, x5, bs, e1, e2, rB2_e, eq_self, if_true, rLet_eq, h6]
  rw [if_neg c1]
  by_cases c2 : (xs i &&& 63) = 2
  · obtain ⟨r, S1, V', K', T', S2, e1, e2, e3⟩ := Op_2 (op_twist (xs (i + 1)) (xs (i + 2))) g
    refine ⟨S2, V', K', T', e3, ?_⟩
    rw [if_pos c2]
    simp only [x1, x2, x3, x4, x5, bs, e1, e2, rB2_e, eq_self, if_true, rLet_eq, h6]
  rw [if_neg c2]
  by_cases c3 : (xs i &&& 63) = 3
  · obtain ⟨r, S1, V', K', T', S2, e1, e2, e3⟩ := Op_2 (op_turn) g
    refine ⟨S2, V', K', T', e3, ?_⟩
    rw [if_pos c3]
    simp only [bs, e1, e2, rB2_e, eq_self, if_true, rLet_eq, h6]
  rw [if_neg c3]
  by_cases c4 : (xs i &&& 63) = 4
  · obtain ⟨r, S1, V', K', T', S2, e1, e2, e3⟩ := Op_2 (op_clear) g
    refine ⟨S2, V', K', T', e3, ?_⟩
    rw [if_pos c4]
    simp only [bs, e1, e2, rB2_e, eq_self, if_true, rLet_eq, h6]
  rw [if_neg c4]
  by_cases c5 : (xs i &&& 63) = 5
  · obtain ⟨r, S1, V', K', T', S2, e1, e2, e3⟩ := Op_2 (op_put (xs (i + 1)) (xs (i + 2))) g
    refine ⟨S2, V', K', T', e3, ?_⟩
    rw [if_pos c5]
    simp only [x1, x2, x3, x4, x5, bs, e1, e2, rB2_e, eq_self, if_true, rLet_eq, h6]
  rw [if_neg c5]
  by_cases c6 : (xs i &&& 63) = 6
  · obtain ⟨r, S1, V', K', T', S2, e1, e2, e3⟩ := Op_2 (op_swap) g
    refine ⟨S2, V', K', T', e3, ?_⟩
    rw [if_pos c6]
    simp only [bs, e1, e2, rB2_e, eq_self, if_true, rLet_eq, h6]
  rw [if_neg c6]
  by_cases c7 : (xs i &&& 63) = 7
  · obtain ⟨r, S1, V', K', T', S2, e1, e2, e3⟩ := Op_2 (op_keep) g
    refine ⟨S2, V', K', T', e3, ?_⟩
    rw [if_pos c7]
    simp only [bs, e1, e2, rB2_e, eq_self, if_true, rLet_eq, h6]
  rw [if_neg c7]
  by_cases c8 : (xs i &&& 63) = 8
  · obtain ⟨r, S1, V', K', T', S2, e1, e2, e3⟩ := Op_2 (op_differ) g
    refine ⟨S2, V', K', T', e3, ?_⟩
    rw [if_pos c8]
    simp only [bs, e1, e2, rB2_e, eq_self, if_true, rLet_eq, h6]
  rw [if_neg c8]
  by_cases c9 : (xs i &&& 63) = 9
  · obtain ⟨r, S1, V', K', T', S2, e1, e2, e3⟩ := Op_2 (op_exchange (xs (i + 1)) (xs (i + 2))) g
    refine ⟨S2, V', K', T', e3, ?_⟩
    rw [if_pos c9]
    simp only [x1, x2, x3, x4, x5, bs, e1, e2, rB2_e, eq_self, if_true, rLet_eq, h6]
  rw [if_neg c9]
  by_cases c10 : (xs i &&& 63) = 10
  · obtain ⟨r, S1, V', K', T', S2, e1, e2, e3⟩ := Op_2 (op_feed (xs (i + 1))) g
    refine ⟨S2, V', K', T', e3, ?_⟩
    rw [if_pos c10]
    simp only [x1, x2, x3, x4, x5, bs, e1, e2, rB2_e, eq_self, if_true, rLet_eq, h6]
  rw [if_neg c10]
  by_cases c11 : (xs i &&& 63) = 11
  · obtain ⟨r, S1, V', K', T', S2, e1, e2, e3⟩ := Op2_1 (op_read) g
    refine ⟨S2, V', K', T', e3, ?_⟩
    rw [if_pos c11]
    simp only [bs, e1, e2, rB2_e, eq_self, if_true, rLet_eq, h6]
  rw [if_neg c11]
  by_cases c12 : (xs i &&& 63) = 12
  · obtain ⟨r, e1, e2⟩ := op_told (xs (i + 1)) V K T S S g
    refine ⟨S, V, K, T, g, ?_⟩
    rw [if_pos c12]
    simp only [x1, x2, x3, x4, x5, bs, e1, e2, eq_self, if_true, rLet_eq, h6]
  rw [if_neg c12]
  by_cases c13 : (xs i &&& 63) = 13
  · obtain ⟨r, e1, e2⟩ := op_block (xs (i + 1)) V K T S S g
    refine ⟨S, V, K, T, g, ?_⟩
    rw [if_pos c13]
    simp only [x1, x2, x3, x4, x5, bs, e1, e2, eq_self, if_true, rLet_eq, h6]
  rw [if_neg c13]
  by_cases c14 : (xs i &&& 63) = 14
  · obtain ⟨r, e1, e2⟩ := op_number (xs (i + 1)) V K T S S g
    refine ⟨S, V, K, T, g, ?_⟩
    rw [if_pos c14]
    simp only [x1, x2, x3, x4, x5, bs, e1, e2, eq_self, if_true, rLet_eq, h6]
  rw [if_neg c14]
  by_cases c15 : (xs i &&& 63) = 15
  · obtain ⟨r, e1, e2⟩ := op_of (xs (i + 1)) (xs (i + 2)) V K T S S g
    refine ⟨S, V, K, T, g, ?_⟩
    rw [if_pos c15]
    simp only [x1, x2, x3, x4, x5, bs, e1, e2, eq_self, if_true, rLet_eq, h6]
  rw [if_neg c15]
  by_cases c16 : (xs i &&& 63) = 16
  · obtain ⟨r, e1, e2⟩ := op_sum (xs (i + 1)) V K T S S g
    refine ⟨S, V, K, T, g, ?_⟩
    rw [if_pos c16]
    simp only [x1, x2, x3, x4, x5, bs, e1, e2, eq_self, if_true, rLet_eq, h6]
  rw [if_neg c16]
  by_cases c17 : (xs i &&& 63) = 17
  · obtain ⟨r, e1, e2⟩ := op_amiss V K T S S g
    refine ⟨S, V, K, T, g, ?_⟩
    rw [if_pos c17]
    simp only [bs, e1, e2, eq_self, if_true, rLet_eq, h6]
  rw [if_neg c17]
  by_cases c18 : (xs i &&& 63) = 18
  · obtain ⟨r, e1, e2⟩ := op_cover (xs (i + 1)) V K T S S g
    refine ⟨S, V, K, T, g, ?_⟩
    rw [if_pos c18]
    simp only [x1, x2, x3, x4, x5, bs, e1, e2, eq_self, if_true, rLet_eq, h6]
  rw [if_neg c18]
  by_cases c19 : (xs i &&& 63) = 19
  · obtain ⟨r, S2, e1, e2, e3⟩ := OpW_1 (op_written (xs (i + 1))) g
    refine ⟨S2, V, K, T, e3, ?_⟩
    rw [if_pos c19]
    simp only [x1, x2, x3, x4, x5, bs, e1, e2, rB2_e, eq_self, if_true, rLet_eq, h6]
  rw [if_neg c19]
  by_cases c20 : (xs i &&& 63) = 20
  · obtain ⟨r, S1, V', K', T', S2, e1, e2, e3⟩ := Op2_1 (op_open (xs (i + 1))) g
    refine ⟨S2, V', K', T', e3, ?_⟩
    rw [if_pos c20]
    simp only [x1, x2, x3, x4, x5, bs, e1, e2, rB2_e, eq_self, if_true, rLet_eq, h6]
  rw [if_neg c20]
  by_cases c21 : (xs i &&& 63) = 21
  · obtain ⟨r, S1, V', K', T', S2, e1, e2, e3⟩ := Op2_1 (op_parted (xs (i + 1))) g
    refine ⟨S2, V', K', T', e3, ?_⟩
    rw [if_pos c21]
    simp only [x1, x2, x3, x4, x5, bs, e1, e2, rB2_e, eq_self, if_true, rLet_eq, h6]
  rw [if_neg c21]
  by_cases c22 : (xs i &&& 63) = 22
  · obtain ⟨r, S1, V', K', T', S2, e1, e2, e3⟩ := Op2_1 (op_part (xs (i + 1)) (xs (i + 2))) g
    refine ⟨S2, V', K', T', e3, ?_⟩
    rw [if_pos c22]
    simp only [x1, x2, x3, x4, x5, bs, e1, e2, rB2_e, eq_self, if_true, rLet_eq, h6]
  rw [if_neg c22]
  by_cases c23 : (xs i &&& 63) = 23
  · obtain ⟨r, S1, V', K', T', S2, e1, e2, e3⟩ := Op_2 (op_see (xs (i + 1)) (xs (i + 2))) g
    refine ⟨S2, V', K', T', e3, ?_⟩
    rw [if_pos c23]
    simp only [x1, x2, x3, x4, x5, bs, e1, e2, rB2_e, eq_self, if_true, rLet_eq, h6]
  rw [if_neg c23]
  by_cases c24 : (xs i &&& 63) = 24
  · obtain ⟨r, S2, e1, e2, e3⟩ := OpW_1 (op_fits (xs (i + 1)) (xs (i + 2))) g
    refine ⟨S2, V, K, T, e3, ?_⟩
    rw [if_pos c24]
    simp only [x1, x2, x3, x4, x5, bs, e1, e2, rB2_e, eq_self, if_true, rLet_eq, h6]
  rw [if_neg c24]
  by_cases c25 : (xs i &&& 63) = 25
  · obtain ⟨r, e1, e2⟩ := op_odds (xs (i + 1)) (xs (i + 2)) V K T S S g
    refine ⟨S, V, K, T, g, ?_⟩
    rw [if_pos c25]
    simp only [x1, x2, x3, x4, x5, bs, e1, e2, lg_eq0, eq_self, if_true, rLet_eq, h6]
  rw [if_neg c25]
  by_cases c26 : (xs i &&& 63) = 26
  · obtain ⟨r, e1, e2⟩ := op_mean (xs (i + 1)) V K T S S g
    refine ⟨S, V, K, T, g, ?_⟩
    rw [if_pos c26]
    simp only [x1, x2, x3, x4, x5, bs, e1, e2, lg_eq0, eq_self, if_true, rLet_eq, h6]
  rw [if_neg c26]
  by_cases c27 : (xs i &&& 63) = 27
  · obtain ⟨r, S1, V', K', T', S2, e1, e2, e3⟩ := Op_2 (op_event (xs (i + 1)) (xs (i + 2))) g
    refine ⟨S2, V', K', T', e3, ?_⟩
    rw [if_pos c27]
    simp only [x1, x2, x3, x4, x5, bs, e1, e2, rB2_e, eq_self, if_true, rLet_eq, h6]
  rw [if_neg c27]
  by_cases c28 : (xs i &&& 63) = 28
  · obtain ⟨r, S1, V', K', T', S2, e1, e2, e3⟩ := Op_2 (op_after (xs (i + 1))) g
    refine ⟨S2, V', K', T', e3, ?_⟩
    rw [if_pos c28]
    simp only [x1, x2, x3, x4, x5, bs, e1, e2, rB2_e, eq_self, if_true, rLet_eq, h6]
  rw [if_neg c28]
  by_cases c29 : (xs i &&& 63) = 29
  · obtain ⟨r, S1, V', K', T', S2, e1, e2, e3⟩ := Op_2 (op_book (xs (i + 1)) (xs (i + 2))) g
    refine ⟨S2, V', K', T', e3, ?_⟩
    rw [if_pos c29]
    simp only [x1, x2, x3, x4, x5, bs, e1, e2, rB2_e, eq_self, if_true, rLet_eq, h6]
  rw [if_neg c29]
  by_cases c30 : (xs i &&& 63) = 30
  · obtain ⟨r, e1, e2⟩ := op_looked V K T S S g
    refine ⟨S, V, K, T, g, ?_⟩
    rw [if_pos c30]
    simp only [bs, e1, e2, eq_self, if_true, rLet_eq, h6]
  rw [if_neg c30]
  by_cases c31 : (xs i &&& 63) = 31
  · obtain ⟨r, e1, e2⟩ := op_judge (xs (i + 1)) (xs (i + 2)) V K T S S g
    refine ⟨S, V, K, T, g, ?_⟩
    rw [if_pos c31]
    simp only [x1, x2, x3, x4, x5, bs, e1, e2, eq_self, if_true, rLet_eq, h6]
  rw [if_neg c31]
  by_cases c32 : (xs i &&& 63) = 32
  · obtain ⟨r, S1, V', K', T', S2, e1, e2, e3⟩ := Op_2 (op_image) g
    refine ⟨S2, V', K', T', e3, ?_⟩
    rw [if_pos c32]
    simp only [bs, e1, e2, rB2_e, eq_self, if_true, rLet_eq, h6]
  rw [if_neg c32]
  by_cases c33 : (xs i &&& 63) = 33
  · obtain ⟨r, S1, V', K', T', S2, e1, e2, e3⟩ := Op_2 (op_undo) g
    refine ⟨S2, V', K', T', e3, ?_⟩
    rw [if_pos c33]
    simp only [bs, e1, e2, rB2_e, eq_self, if_true, rLet_eq, h6]
  rw [if_neg c33]
  by_cases c34 : (xs i &&& 63) = 34
  · obtain ⟨r, e1, e2⟩ := op_counted (xs (i + 1)) V K T S S g
    refine ⟨S, V, K, T, g, ?_⟩
    rw [if_pos c34]
    simp only [x1, x2, x3, x4, x5, bs, e1, e2, eq_self, if_true, rLet_eq, h6]
  rw [if_neg c34]
  by_cases c35 : (xs i &&& 63) = 35
  · obtain ⟨r, S1, V', K', T', S2, e1, e2, e3⟩ := Op_2 (op_tape (xs (i + 1)) (xs (i + 2)) (xs (i + 3))) g
    refine ⟨S2, V', K', T', e3, ?_⟩
    rw [if_pos c35]
    simp only [x1, x2, x3, x4, x5, bs, e1, e2, rB2_e, eq_self, if_true, rLet_eq, h6]
  rw [if_neg c35]
  by_cases c36 : (xs i &&& 63) = 36
  · obtain ⟨r, S1, V', K', T', S2, e1, e2, e3⟩ := Op_2 (op_item (xs (i + 1)) (xs (i + 2)) (((Int32.toInt64 (xs (i + 3))) <<< (Int32.toInt64 32 &&& 63)) ||| ((Int32.toInt64 (xs (i + 4))) &&& 4294967295))) g
    refine ⟨S2, V', K', T', e3, ?_⟩
    rw [if_pos c36]
    simp only [x1, x2, x3, x4, x5, bs, e1, e2, rB2_e, eq_self, if_true, rLet_eq, h6]
  rw [if_neg c36]
  by_cases c37 : (xs i &&& 63) = 37
  · obtain ⟨r, e1, e2⟩ := op_peek (xs (i + 1)) (xs (i + 2)) V K T S S g
    refine ⟨S, V, K, T, g, ?_⟩
    rw [if_pos c37]
    simp only [x1, x2, x3, x4, x5, bs, e1, e2, lg_eq0, eq_self, if_true, rLet_eq, h6]
  rw [if_neg c37]
  by_cases c38 : (xs i &&& 63) = 38
  · obtain ⟨r, S1, V', K', T', S2, e1, e2, e3⟩ := Op_2 (op_shift (xs (i + 1)) (xs (i + 2)) (xs (i + 3)) (xs (i + 4)) (xs (i + 5))) g
    refine ⟨S2, V', K', T', e3, ?_⟩
    rw [if_pos c38]
    simp only [x1, x2, x3, x4, x5, bs, e1, e2, rB2_e, eq_self, if_true, rLet_eq, h6]
  rw [if_neg c38]
  refine ⟨S, V, K, T, g, ?_⟩
  show rLet (nI i + 6) (fun v13 => J_L_law_18 L xs 0 60 f v13 (Wd S)) = _
  rw [rLet_eq, h6]
theorem law_all {L : Nat} (hL : L ≤ 3072) (xs : Nat → Int32) : ∀ m f i V K T S, i ≤ L → L < i + 6 * m + 6 → m < f → R V K T S S → ∃ w, J_L_law_18 L xs 0 60 f (nI i) (Wd S) = some (true, w) := by
  intro m
  induction m with
  | zero =>
    intro f i V K T S hi hm hf g
    obtain ⟨f, rfl⟩ : ∃ q, f = q + 1 := ⟨f - 1, by omega⟩
    have ht : (nI L - 6) < nI i := by
      by_cases h6 : 6 ≤ L
      · rw [show nI L - 6 = nI (L - 6) from pk_sub (a := L) (b := 6) h6]
        exact nI_lt (by omega) (by omega)
      · exact Int32.lt_of_lt_of_le (pk_sneg (a := L) (b := 6) (by decide) (by omega)) (nI_pos' (by omega))
    exact ⟨Wd S, by rw [J_L_law_18, rLet_eq, if_pos ht]⟩
  | succ m ih =>
    intro f i V K T S hi hm hf g
    obtain ⟨f, rfl⟩ : ∃ q, f = q + 1 := ⟨f - 1, by omega⟩
    by_cases h : i + 6 ≤ L
    · obtain ⟨S2, V', K', T', g', e⟩ := law_step hL h xs f g
      obtain ⟨w, hw⟩ := ih f (i + 6) V' K' T' S2 h (by omega) (by omega) g'
      exact ⟨w, e.trans hw⟩
    · have ht : (nI L - 6) < nI i := by
        by_cases h6 : 6 ≤ L
        · rw [show nI L - 6 = nI (L - 6) from pk_sub (a := L) (b := 6) h6]
          exact nI_lt (by omega) (by omega)
        · exact Int32.lt_of_lt_of_le (pk_sneg (a := L) (b := 6) (by decide) (by omega)) (nI_pos' (by omega))
      exact ⟨Wd S, by rw [J_L_law_18, rLet_eq, if_pos ht]⟩

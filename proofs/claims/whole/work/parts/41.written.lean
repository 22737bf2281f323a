/-! WRITTEN -/
/-- the points of a set from p on -/
def ptL (s : Nat) : Nat → Nat → List Nat
  | 0, _ => []
  | m + 1, p => if s / 2 ^ p % 2 = 1 then p :: ptL s m (p + 1) else ptL s m (p + 1)
theorem ptL_fin : ∀ v, v < 9 → ∀ s, s < 2 ^ v → (decide (ptL s v 0 = ptL s 8 0) && decide ((ptL s v 0).length = pc s)) = true := by decide +kernel
def preL (c : Int32) : List Int32 := (if c ≤ 0 then 45 else 43) :: ((if jabs c ≤ 9 then [] else [48 + jabs c / 10]) ++ (if jabs c = 1 then [] else [48 + (jabs c - jabs c / 10 * 10), 42]))
def flI (c : Int32) : Int32 := if jabs c = 1 then 0 else if 10 ≤ jabs c then 3 else 2
def preT (c x : Int32) : Int32 := if x = 0 then (if 0 ≤ c then 43 else 45) else if x = flI c then 42 else if x = flI c - 1 then 48 + (jabs c - jabs c / 10 * 10) else 48 + jabs c / 10
def preOk (c : Int32) : Bool := decide (c = 0) || (decide (flI c = nI ((preL c).length - 1)) && (decide (1 ≤ (preL c).length) && (decide ((preL c).length ≤ 4) && (List.range 4).all (fun q => decide ((preL c).length ≤ q) || decide (preT c (nI q) = (preL c).getD q 0)))))
theorem pre_fin : ∀ j, j < 199 → preOk (nI j + (-99)) = true := by decide +kernel
theorem pre_ok {c : Int32} (h : inB c (-99) 99 = true) (h0 : ¬ c = 0) : flI c = nI ((preL c).length - 1) ∧ 1 ≤ (preL c).length ∧ (preL c).length ≤ 4 ∧ ∀ q, q < (preL c).length → preT c (nI q) = (preL c).getD q 0 := by
  have hc : ∃ j, j < 199 ∧ c = nI j + (-99) := by
    unfold inB at h
    simp only [Bool.and_eq_true, Bool.not_eq_true', decide_eq_false_iff_not, Int32.lt_iff_toInt_lt] at h
    have h1 : (-99 : Int32).toInt = -99 := rfl
    have h2 : (99 : Int32).toInt = 99 := rfl
    rw [h1, h2] at h
    refine ⟨(c.toInt + 99).toNat, by omega, ?_⟩
    have e : ∀ i, i < 199 → (nI i + (-99)).toInt = (i : Int) - 99 := by decide +kernel
    rw [← Int32.toInt_inj, e _ (by omega)]
    omega
  obtain ⟨j, hj, e⟩ := hc
  have h1 := pre_fin j hj
  rw [← e] at h1
  unfold preOk at h1
  rw [decide_eq_false h0, Bool.false_or] at h1
  simp only [Bool.and_eq_true, decide_eq_true_eq] at h1
  obtain ⟨a1, a2, a3, a4⟩ := h1
  refine ⟨a1, a2, a3, fun q hq => ?_⟩
  have a5 := List.all_eq_true.mp a4 q (List.mem_range.mpr (by omega))
  rw [Bool.or_eq_true, decide_eq_true_eq, decide_eq_true_eq] at a5
  rcases a5 with a5 | a5
  · omega
  · exact a5
theorem gD_rr {α : Type} {l m : List α} {b : Nat} (d : α) (h : l.length ≤ b) : (l ++ m).getD b d = m.getD (b - l.length) d := by
  rw [List.getD_eq_getElem?_getD, List.getD_eq_getElem?_getD, List.getElem?_append_right h]
theorem gD_m {l : List Nat} {r : Nat} (f : Nat → Int32) (h : r < l.length) : (l.map f).getD r 0 = f (l.getD r 0) := by
  rw [List.getD_eq_getElem?_getD, List.getD_eq_getElem?_getD, List.getElem?_map, List.getElem?_eq_getElem h]
  rfl
/-- what a block comes to -/
def tmL (V : Nat) (c : Int32) (s : Nat) : List Int32 := preL c ++ (ptL s V 0).map (fun p => 48 + nI p)
def trL (V K : Nat) (f : Nat → Int32) : Nat → Nat → List Int32
  | 0, _ => []
  | m + 1, b => (if f b = 0 then [] else tmL V (f b) (BT V K b)) ++ trL V K f m (b + 1)
theorem tmL_len {V K T b : Nat} (hk : Ok3 V K T) (hb : b < MB V K) (c : Int32) : (tmL V c (BT V K b)).length = (preL c).length + K := by
  obtain ⟨h1, h2, h3⟩ := BT_in hb
  obtain ⟨h4, h5⟩ := pr_lt h1
  have h6 := ptL_fin V (by have := hk.2.1; omega) _ h4
  rw [Bool.and_eq_true, decide_eq_true_eq, decide_eq_true_eq] at h6
  unfold tmL
  rw [List.length_append, List.length_map, h6.2, h5]
/-! the class -/
theorem pointOf_L {s : Nat} (hs : s < 256) : ∀ m f p r, p + m = 8 → m < f → r < 1000 → J_X5_pointOf_4 (nI s) f (nI r) (nI p) = some (nI ((ptL s m p).getD r 0)) := by
  intro m
  induction m with
  | zero =>
    intro f p r hp hf hr
    obtain ⟨f, rfl⟩ : ∃ k, f = k + 1 := ⟨f - 1, by omega⟩
    have : p = 8 := by omega
    subst this
    rw [J_X5_pointOf_4, if_pos (by decide)]
    rfl
  | succ m ih =>
    intro f p r hp hf hr
    obtain ⟨f, rfl⟩ : ∃ k, f = k + 1 := ⟨f - 1, by omega⟩
    have e1 : ¬ (8 : Int32) ≤ nI p := nI_ge (b := 8) (by omega) (by decide)
    have e2 := (bt_or s hs p (by omega)).2.2
    rw [J_X5_pointOf_4, if_neg e1, e2, ptL]
    simp only [rLet_eq, nI_1]
    by_cases h1 : s / 2 ^ p % 2 = 1
    · rw [if_pos h1, h1, if_neg (by decide)]
      by_cases h2 : r = 0
      · subst h2
        rw [if_pos nI_0]
        rfl
      · obtain ⟨q, rfl⟩ : ∃ q, r = q + 1 := ⟨r - 1, by omega⟩
        rw [if_neg (nI_ne0 (by omega) (by omega)), pk_m1, ih f (p + 1) q (by omega) (by omega) (by omega)]
        rfl
    · have h0 : s / 2 ^ p % 2 = 0 := by omega
      rw [if_neg h1, h0, if_pos nI_0, ih f (p + 1) r (by omega) (by omega) hr]
theorem factor_eq (c : Int32) (w : rW) : J_X5_factorLength c w = some (flI c) := by
  unfold J_X5_factorLength flI
  simp only [rLet_eq]
  by_cases h1 : jabs c = 1
  · simp only [h1, if_true]
  · by_cases h2 : 10 ≤ jabs c
    · simp only [h1, h2, if_true, if_false]
    · simp only [h1, h2, if_false]
theorem jrem10' (x : Int32) : jrem x 10 = some (x - x / 10 * 10) := jrem10 x
theorem signOf5 {S : rSt} {V K T b : Nat} (hk : Ok3 V K T) (cB : IsB V K (S.2.2.1 3) (S.2.2.1 4)) (hb : b < MB V K) (hc : inB (S.2.2.1 6 b) (-99) 99 = true) (h0 : ¬ S.2.2.1 6 b = 0) {q : Nat} (hq : q < (tmL V (S.2.2.1 6 b) (BT V K b)).length) : J_X5_signOfTerm 5 (nI b) (nI q) (Wd S) = some ((tmL V (S.2.2.1 6 b) (BT V K b)).getD q 0) := by
  have hM := MB_ok hk
  have hl := tmL_len hk hb (S.2.2.1 6 b)
  obtain ⟨g1, g2, g3⟩ := BT_in hb
  obtain ⟨g4, g5⟩ := pr_lt g1
  have g6 := ptL_fin V (by have := hk.2.1; omega) _ g4
  rw [Bool.and_eq_true, decide_eq_true_eq, decide_eq_true_eq] at g6
  obtain ⟨a1, a2, a3, a4⟩ := pre_ok hc h0
  have hK := hk.2.2.2.1
  have b56 : b < 56 := by omega
  unfold J_X5_signOfTerm
  rw [wr_5, wf_5_1, bs, wa_6 b56, bs]
  by_cases h1 : q < (preL (S.2.2.1 6 b)).length
  · have a5 := a4 q h1
    unfold tmL
    rw [gD_l 0 h1, ← a5]
    unfold preT
    by_cases h2 : nI q = 0
    · rw [if_pos h2, if_pos h2]
      by_cases h3 : 0 ≤ S.2.2.1 6 b
      · rw [if_pos h3, if_pos h3]
      · rw [if_neg h3, if_neg h3]
    · have h4 : nI q ≤ flI (S.2.2.1 6 b) := by rw [a1]; exact nI_le (by omega) (by omega)
      rw [if_neg h2, if_neg h2, factor_eq, bs, if_pos h4]
      by_cases h5 : nI q = flI (S.2.2.1 6 b)
      · rw [if_pos h5, if_pos h5]
      · rw [if_neg h5, if_neg h5, rLet_eq]
        by_cases h6 : nI q = flI (S.2.2.1 6 b) - 1
        · rw [if_pos h6, if_pos h6, jrem10, bs]
        · rw [if_neg h6, if_neg h6, jdiv10, bs]
  · have h2 : ¬ nI q = 0 := nI_ne0 (by omega) (by omega)
    have h4 : ¬ nI q ≤ flI (S.2.2.1 6 b) := by rw [a1]; exact nI_ge (by omega) (by omega)
    have e3 : (nI q - flI (S.2.2.1 6 b)) - 1 = nI (q - (preL (S.2.2.1 6 b)).length) := by
      rw [a1, pk_sub (by omega), nI_prd (by omega)]
      exact congrArg nI (by omega)
    have e5 : S.2.2.1 3 b = nI (BT V K b) := cB.1 b hb
    rw [if_neg h2, factor_eq, bs, if_neg h4, wf_5_0, bs, wf_2_4, bs, wa_3 b56, bs, e3, e5]
    unfold J_X5_pointOf
    have e6 := pointOf_L g2 8 2000 0 (q - (preL (S.2.2.1 6 b)).length) (by omega) (by omega) (by omega)
    rw [nI_0] at e6
    rw [e6, bs]
    unfold tmL
    rw [gD_rr 0 (by omega), gD_m _ (by omega), g6.1]
theorem written5_L {S : rSt} {V K T : Nat} (hk : Ok3 V K T) (c1 : S.1 2 1 = nI K) (c3 : S.1 2 3 = nI (MB V K)) (cB : IsB V K (S.2.2.1 3) (S.2.2.1 4)) (hc : ∀ b, b < MB V K → inB (S.2.2.1 6 b) (-99) 99 = true) (K' : Option Int32) : ∀ m f b q, b + m = MB V K → m < f → q < 2 ^ 31 → J_X5_signWritten_4 5 (Wd S) K' f (nI q) (nI b) = if q < (trL V K (S.2.2.1 6) m b).length then some ((trL V K (S.2.2.1 6) m b).getD q 0) else K' := by
  have hM := MB_ok hk
  have e0 := nI_refl (n := MB V K) (by omega)
  have hK := hk.2.2.2.1
  intro m
  induction m with
  | zero =>
    intro f b q hb hf hq
    obtain ⟨f, rfl⟩ : ∃ k, f = k + 1 := ⟨f - 1, by omega⟩
    have hb : b = MB V K := by omega
    rw [J_X5_signWritten_4, wf_5_0, bs, wf_2_3, bs, c3, hb, if_pos e0]
    rfl
  | succ m ih =>
    intro f b q hb hf hq
    obtain ⟨f, rfl⟩ : ∃ k, f = k + 1 := ⟨f - 1, by omega⟩
    have hbm : b < MB V K := by omega
    have b56 : b < 56 := by omega
    have e1 : ¬ nI (MB V K) ≤ nI b := nI_ge hbm (by omega)
    rw [J_X5_signWritten_4, wf_5_0, bs, wf_2_3, bs, c3, if_neg e1, wf_5_1, bs, wa_6 b56, bs, trL]
    simp only [rLet_eq, nI_1]
    by_cases h0 : S.2.2.1 6 b = 0
    · rw [if_pos h0, if_pos h0, List.nil_append]
      exact ih f (b + 1) q (by omega) (by omega) hq
    · obtain ⟨a1, a2, a3, a4⟩ := pre_ok (hc b hbm) h0
      have hl := tmL_len hk hbm (S.2.2.1 6 b)
      have e2 : (1 + flI (S.2.2.1 6 b)) + nI K = nI (tmL V (S.2.2.1 6 b) (BT V K b)).length := by
        rw [a1, show (1 : Int32) = nI 1 by decide, nI_add, nI_add, hl]
        congr 1
        omega
      have e3 : nI (tmL V (S.2.2.1 6 b) (BT V K b)).length ≤ nI q ↔ (tmL V (S.2.2.1 6 b) (BT V K b)).length ≤ q := nI_leI (by omega) hq
      rw [if_neg h0, if_neg h0, bs, wa_6 b56, bs, factor_eq, bs, bs, wf_2_1, bs, c1, e2]
      by_cases h1 : (tmL V (S.2.2.1 6 b) (BT V K b)).length ≤ q
      · rw [if_pos (e3.mpr h1), pk_sub h1, ih f (b + 1) _ (by omega) (by omega) (by omega), List.length_append, gD_rr 0 h1]
        by_cases h2 : q - (tmL V (S.2.2.1 6 b) (BT V K b)).length < (trL V K (S.2.2.1 6) m (b + 1)).length
        · rw [if_pos h2, if_pos (by omega)]
        · rw [if_neg h2, if_neg (by omega)]
      · rw [if_neg (fun h => h1 (e3.mp h)), signOf5 hk cB hbm (hc b hbm) h0 (by omega), bs, List.length_append, if_pos (by omega), gD_l 0 (by omega)]
/-! the model -/
def arL (l : List Int32) (g : Nat → Int32) : Nat → Int32 := fun j => if j < l.length then l.getD j 0 else g j
theorem arL_add (l : List Int32) (g : Nat → Int32) (c : Int32) : upd (arL l g) l.length c = arL (l ++ [c]) g := by
  funext j
  rw [up_a]
  unfold arL
  rw [List.length_append]
  by_cases h1 : j = l.length
  · subst h1
    rw [if_pos rfl, if_pos (by show _ < _ + 1; omega), gD_r c 0 rfl]
  · rw [if_neg h1]
    by_cases h2 : j < l.length
    · rw [if_pos h2, if_pos (by show _ < _ + 1; omega), gD_l 0 h2]
    · rw [if_neg h2, if_neg (by show ¬ _ < _ + 1; omega)]
abbrev wL (M : rSt) (l : List Int32) : rSt := si (sa M 83 (arL l (M.2.2.1 83))) 60 34 (nI l.length)
theorem write60 {M : rSt} {l : List Int32} (h : l.length < 600) (c : Int32) : J_X10_write 60 c (Wd (wL M l)) = some (Wd (wL M (l ++ [c]))) := by
  have e2 : (si (sa M 83 (arL l (M.2.2.1 83))) 60 34 (nI l.length)).1 60 34 = nI l.length := by rw [ri_i, if_pos rfl, if_pos rfl]
  have e3 : (si (si (sa M 83 (arL l (M.2.2.1 83))) 60 34 (nI l.length)) 60 34 (nI (l.length + 1))).2.2.1 83 = arL l (M.2.2.1 83) := by rw [ri_2, ri_2, ra_a, if_pos rfl]
  unfold J_X10_write
  rw [wr_60, wf_60_33, bs, wf_60_34, bs, e2, nI_1, wp_60_34, bs, wt_83 h, bs, e3, arL_add]
  have e4 : (l ++ [c]).length = l.length + 1 := by rw [List.length_append]; rfl
  show some (Wd _) = some (Wd (si (sa M 83 (arL (l ++ [c]) (M.2.2.1 83))) 60 34 (nI (l ++ [c]).length)))
  rw [e4]
  simp (disch := omega) only [sa_ss, sj_ss, si_ss, sl_ss, sa_sx, sj_sx, si_x1, si_x2, sl_x1, sl_x2, si_sl, si_sa, si_sj, sl_sa, sl_sj, sa_sj, Nat.reduceAdd]
def ptF (s p : Nat) (l : List Int32) : List Int32 := if s / 2 ^ p % 2 = 1 then l ++ [48 + nI p] else l
theorem ptF_eq (s : Nat) : ∀ m p l, rF (ptF s) m p l = l ++ (ptL s m p).map (fun p => 48 + nI p) := by
  intro m
  induction m with
  | zero => intro p l; rw [ptL, List.map_nil, List.append_nil]; rfl
  | succ m ih =>
    intro p l
    rw [rF, ih, ptL]
    unfold ptF
    by_cases h : s / 2 ^ p % 2 = 1
    · rw [if_pos h, if_pos h, List.append_assoc]; rfl
    · rw [if_neg h, if_neg h]
theorem writes_91 {M : rSt} {V K T b : Nat} (hk : Ok3 V K T) (m0 : M.1 60 0 = nI V) (mB : IsB V K (M.2.2.1 61) (M.2.2.1 62)) (hb : b < MB V K) (K' : rW → Option rW) (l : List Int32) (hl : l.length < 500) : J_X10_writes_91 60 (nI b) K' 2000 0 (Wd (wL M l)) = K' (Wd (wL M (l ++ (ptL (BT V K b) V 0).map (fun p => 48 + nI p)))) := by
  have hM := MB_ok hk
  have hV := hk.2.1
  have b56 : b < 56 := by omega
  have e0 := nI_refl (n := V) (by omega)
  have g2 := (BT_in hb).2.1
  have key := loopF (fun f l i => J_X10_writes_91 60 (nI b) K' f (nI i) (Wd (wL M l))) (fun l => K' (Wd (wL M l))) (ptF (BT V K b)) (fun i x => x.length ≤ l.length + i) V (fun f x _ => by
      have e2 : (wL M x).1 60 0 = nI V := by rw [ri_i, if_pos rfl, if_neg (by decide)]; exact m0
      rw [J_X10_writes_91, wf_60_0, bs, e2, if_pos e0]) (fun f x i hi hx => by
      have e2 : (wL M x).1 60 0 = nI V := by rw [ri_i, if_pos rfl, if_neg (by decide)]; exact m0
      have e3 : (wL M x).2.2.1 61 b = nI (BT V K b) := mB.1 b hb
      have e4 := (bt_or (BT V K b) g2 i (by omega)).2.2
      rw [J_X10_writes_91, wf_60_0, bs, e2, if_neg (nI_ge hi (by omega)), wf_60_4, bs, wa_61 b56, bs, e3, e4]
      simp only [rLet_eq, nI_1]
      unfold ptF
      by_cases h : BT V K b / 2 ^ i % 2 = 1
      · rw [if_pos h, h, if_pos (by decide), write60 (by omega), bs]
      · have h0 : BT V K b / 2 ^ i % 2 = 0 := by omega
        rw [if_neg h, h0, if_neg (by decide)]) (fun x i hi hx => by
      unfold ptF
      split
      · rw [List.length_append]
        show _ + 1 ≤ _
        omega
      · omega) V 2000 l 0 (by omega) (by omega) (by omega)
  rw [ptF_eq, nI_0] at key
  exact key
def wrF (V K : Nat) (f : Nat → Int32) (b : Nat) (l : List Int32) : List Int32 := if f b = 0 then l else l ++ tmL V (f b) (BT V K b)
theorem wrF_eq (V K : Nat) (f : Nat → Int32) : ∀ m b l, rF (wrF V K f) m b l = l ++ trL V K f m b := by
  intro m
  induction m with
  | zero => intro b l; rw [trL, List.append_nil]; rfl
  | succ m ih =>
    intro b l
    rw [rF, ih, trL]
    unfold wrF
    by_cases h : f b = 0
    · rw [if_pos h, if_pos h, List.nil_append]
    · rw [if_neg h, if_neg h, List.append_assoc]
theorem writes60_7 {M : rSt} {V K T : Nat} (hk : Ok3 V K T) (m0 : M.1 60 0 = nI V) (m3 : M.1 60 3 = nI (MB V K)) (mB : IsB V K (M.2.2.1 61) (M.2.2.1 62)) (hc : ∀ b, b < MB V K → inB (M.2.2.1 63 b) (-99) 99 = true) (K' : rW → Option rW) : J_X10_writes_7 60 K' 2000 0 (Wd (wL M [])) = K' (Wd (wL M (trL V K (M.2.2.1 63) (MB V K) 0))) ∧ (trL V K (M.2.2.1 63) (MB V K) 0).length ≤ 400 := by
  have hM := MB_ok hk
  have hK := hk.2.2.2.1
  have e0 := nI_refl (n := MB V K) (by omega)
  have len : ∀ i x, i < MB V K → x.length ≤ 7 * i → (wrF V K (M.2.2.1 63) i x).length ≤ 7 * (i + 1) := by
    intro i x hi hx
    unfold wrF
    by_cases h : M.2.2.1 63 i = 0
    · rw [if_pos h]; omega
    · obtain ⟨a1, a2, a3, a4⟩ := pre_ok (hc i hi) h
      rw [if_neg h, List.length_append, tmL_len hk hi]
      omega
  have key := loopF (fun f l i => J_X10_writes_7 60 K' f (nI i) (Wd (wL M l))) (fun l => K' (Wd (wL M l))) (wrF V K (M.2.2.1 63)) (fun i x => x.length ≤ 7 * i) (MB V K) (fun f x _ => by
      have e2 : (wL M x).1 60 3 = nI (MB V K) := by rw [ri_i, if_pos rfl, if_neg (by decide)]; exact m3
      rw [J_X10_writes_7, wf_60_3, bs, e2, if_pos e0]) (fun f x i hi hx => by
      have i56 : i < 56 := by omega
      have e2 : (wL M x).1 60 3 = nI (MB V K) := by rw [ri_i, if_pos rfl, if_neg (by decide)]; exact m3
      have e3 : (wL M x).2.2.1 63 = M.2.2.1 63 := by rw [ri_2, ra_a, if_neg (by decide)]
      rw [J_X10_writes_7, wf_60_3, bs, e2, if_neg (nI_ge hi (by omega)), wf_60_6, bs, wa_63 i56, bs, e3]
      simp only [rLet_eq, nI_1]
      unfold wrF
      by_cases h : M.2.2.1 63 i = 0
      · rw [if_pos h, if_pos h]
      · have w91 := fun (l : List Int32) (hl : l.length < 500) K' => writes_91 hk m0 mB hi K' l hl
        have sg : (if M.2.2.1 63 i ≤ 0 then (J_X10_write 60 45 (Wd (wL M x))).bind (fun w17 => if jabs (M.2.2.1 63 i) ≤ 9 then if jabs (M.2.2.1 63 i) = 1 then J_X10_writes_91 60 (nI i) (fun w => J_X10_writes_7 60 K' f (nI (i + 1)) w) 2000 0 w17 else (jrem (jabs (M.2.2.1 63 i)) 10).bind fun v31 => (J_X10_write 60 (48 + v31) w17).bind fun w33 => (J_X10_write 60 42 w33).bind fun w35 => J_X10_writes_91 60 (nI i) (fun w => J_X10_writes_7 60 K' f (nI (i + 1)) w) 2000 0 w35 else (jdiv (jabs (M.2.2.1 63 i)) 10).bind fun v37 => (J_X10_write 60 (48 + v37) w17).bind fun w39 => if jabs (M.2.2.1 63 i) = 1 then J_X10_writes_91 60 (nI i) (fun w => J_X10_writes_7 60 K' f (nI (i + 1)) w) 2000 0 w39 else (jrem (jabs (M.2.2.1 63 i)) 10).bind fun v31 => (J_X10_write 60 (48 + v31) w39).bind fun w33 => (J_X10_write 60 42 w33).bind fun w35 => J_X10_writes_91 60 (nI i) (fun w => J_X10_writes_7 60 K' f (nI (i + 1)) w) 2000 0 w35) else (J_X10_write 60 43 (Wd (wL M x))).bind (fun w17 => if jabs (M.2.2.1 63 i) ≤ 9 then if jabs (M.2.2.1 63 i) = 1 then J_X10_writes_91 60 (nI i) (fun w => J_X10_writes_7 60 K' f (nI (i + 1)) w) 2000 0 w17 else (jrem (jabs (M.2.2.1 63 i)) 10).bind fun v31 => (J_X10_write 60 (48 + v31) w17).bind fun w33 => (J_X10_write 60 42 w33).bind fun w35 => J_X10_writes_91 60 (nI i) (fun w => J_X10_writes_7 60 K' f (nI (i + 1)) w) 2000 0 w35 else (jdiv (jabs (M.2.2.1 63 i)) 10).bind fun v37 => (J_X10_write 60 (48 + v37) w17).bind fun w39 => if jabs (M.2.2.1 63 i) = 1 then J_X10_writes_91 60 (nI i) (fun w => J_X10_writes_7 60 K' f (nI (i + 1)) w) 2000 0 w39 else (jrem (jabs (M.2.2.1 63 i)) 10).bind fun v31 => (J_X10_write 60 (48 + v31) w39).bind fun w33 => (J_X10_write 60 42 w33).bind fun w35 => J_X10_writes_91 60 (nI i) (fun w => J_X10_writes_7 60 K' f (nI (i + 1)) w) 2000 0 w35)) = J_X10_writes_7 60 K' f (nI (i + 1)) (Wd (wL M (x ++ tmL V (M.2.2.1 63 i) (BT V K i)))) := by
          have sgn : ∀ c0 : Int32, (J_X10_write 60 c0 (Wd (wL M x))).bind (fun w17 => if jabs (M.2.2.1 63 i) ≤ 9 then if jabs (M.2.2.1 63 i) = 1 then J_X10_writes_91 60 (nI i) (fun w => J_X10_writes_7 60 K' f (nI (i + 1)) w) 2000 0 w17 else (jrem (jabs (M.2.2.1 63 i)) 10).bind fun v31 => (J_X10_write 60 (48 + v31) w17).bind fun w33 => (J_X10_write 60 42 w33).bind fun w35 => J_X10_writes_91 60 (nI i) (fun w => J_X10_writes_7 60 K' f (nI (i + 1)) w) 2000 0 w35 else (jdiv (jabs (M.2.2.1 63 i)) 10).bind fun v37 => (J_X10_write 60 (48 + v37) w17).bind fun w39 => if jabs (M.2.2.1 63 i) = 1 then J_X10_writes_91 60 (nI i) (fun w => J_X10_writes_7 60 K' f (nI (i + 1)) w) 2000 0 w39 else (jrem (jabs (M.2.2.1 63 i)) 10).bind fun v31 => (J_X10_write 60 (48 + v31) w39).bind fun w33 => (J_X10_write 60 42 w33).bind fun w35 => J_X10_writes_91 60 (nI i) (fun w => J_X10_writes_7 60 K' f (nI (i + 1)) w) 2000 0 w35) = J_X10_writes_7 60 K' f (nI (i + 1)) (Wd (wL M (x ++ ((c0 :: ((if jabs (M.2.2.1 63 i) ≤ 9 then [] else [48 + jabs (M.2.2.1 63 i) / 10]) ++ (if jabs (M.2.2.1 63 i) = 1 then [] else [48 + (jabs (M.2.2.1 63 i) - jabs (M.2.2.1 63 i) / 10 * 10), 42]))) ++ (ptL (BT V K i) V 0).map (fun p => 48 + nI p))))) := by
            intro c0
            rw [write60 (by omega), bs]
            have x1 : (x ++ [c0]).length = x.length + 1 := by rw [List.length_append]; rfl
            have st : ∀ y : List Int32, y.length < 450 → (if jabs (M.2.2.1 63 i) = 1 then J_X10_writes_91 60 (nI i) (fun w => J_X10_writes_7 60 K' f (nI (i + 1)) w) 2000 0 (Wd (wL M y)) else (jrem (jabs (M.2.2.1 63 i)) 10).bind fun v31 => (J_X10_write 60 (48 + v31) (Wd (wL M y))).bind fun w33 => (J_X10_write 60 42 w33).bind fun w35 => J_X10_writes_91 60 (nI i) (fun w => J_X10_writes_7 60 K' f (nI (i + 1)) w) 2000 0 w35) = J_X10_writes_7 60 K' f (nI (i + 1)) (Wd (wL M ((y ++ (if jabs (M.2.2.1 63 i) = 1 then [] else [48 + (jabs (M.2.2.1 63 i) - jabs (M.2.2.1 63 i) / 10 * 10), 42])) ++ (ptL (BT V K i) V 0).map (fun p => 48 + nI p)))) := by
              intro y hy
              by_cases h1 : jabs (M.2.2.1 63 i) = 1
              · rw [if_pos h1, if_pos h1, w91 y (by omega), List.append_nil]
              · have y1 : ∀ c : Int32, (y ++ [c]).length = y.length + 1 := fun c => by rw [List.length_append]; rfl
                have y2 : ∀ c d : Int32, (y ++ [c] ++ [d]).length = y.length + 2 := fun c d => by rw [List.length_append, y1]; rfl
                rw [if_neg h1, if_neg h1, jrem10, bs, write60 (by omega), bs, write60 (by rw [y1]; omega), bs, w91 _ (by rw [y2]; omega)]
                rw [List.append_assoc y [_] [42]]
                rfl
            by_cases h9 : jabs (M.2.2.1 63 i) ≤ 9
            · rw [if_pos h9, if_pos h9, st _ (by omega)]
              simp only [List.append_assoc, List.cons_append, List.nil_append]
            · rw [if_neg h9, if_neg h9, jdiv10, bs, write60 (by omega), bs, st _ (by rw [List.length_append, x1]; show _ + 1 < _; omega)]
              simp only [List.append_assoc, List.cons_append, List.nil_append]
          unfold tmL preL
          by_cases hs : M.2.2.1 63 i ≤ 0
          · rw [if_pos hs, if_pos hs, sgn]
          · rw [if_neg hs, if_neg hs, sgn]
        rw [if_neg h, if_neg h]
        exact sg) (fun x i hi hx => len i x hi hx) (MB V K) 2000 [] 0 (by omega) (by omega) (by show 0 ≤ _; omega)
  have l2 := rF_inv (wrF V K (M.2.2.1 63)) (fun i x => i ≤ MB V K → x.length ≤ 7 * i) (MB V K) 0 [] (fun _ => by show 0 ≤ _; omega) (fun i x h1 h2 hI hi => len i x (by omega) (hI (by omega)))
  rw [Nat.zero_add, wrF_eq, List.nil_append] at l2
  rw [wrF_eq, List.nil_append, nI_0] at key
  exact ⟨key, by have := l2 (Nat.le_refl _); omega⟩
theorem trL_c {V K : Nat} {f g : Nat → Int32} : ∀ m b, (∀ j, j < b + m → f j = g j) → trL V K f m b = trL V K g m b := by
  intro m
  induction m with
  | zero => intro b _; rfl
  | succ m ih =>
    intro b h
    rw [trL, trL, h b (by omega), ih (b + 1) (fun j hj => h j (by omega))]
theorem op_written (x : Int32) : OpW (J_X9_written 0 x) (J_X10_written 60 x) := by
  intro V K T S M hR
  obtain ⟨⟨⟨hk, c0, c1, c2, c3, cB⟩, -, m0, m1, m2, m3, mB⟩, hst, -⟩ := id hR
  have hM := MB_ok hk
  by_cases hx : 0 ≤ x
  · obtain ⟨i, hi, rfl⟩ := nI_ex x hx
    have e1 := fun K' => written5_L hk c1 c3 cB (fun b hb => (hst.1 b (by omega)).2.2.2) K' (MB V K) 2000 0 i (by omega) (by omega) hi
    obtain ⟨e2, e3⟩ := writes60_7 (M := M) hk m0 m3 mB (fun b hb => by rw [(hst.1 b (by omega)).1]; exact (hst.1 b (by omega)).2.2.2) (fun w2 => (gI w2 60 10 34).bind fun v3 => if v3 = 0 then (J_X10_write 60 48 w2).bind fun w6 => some w6 else some w2)
    have e4 : trL V K (M.2.2.1 63) (MB V K) 0 = trL V K (S.2.2.1 6) (MB V K) 0 := trL_c _ _ (fun j hj => (hst.1 j (by omega)).1)
    rw [e4] at e2 e3
    rw [nI_0] at e1
    have w0 : sa M 83 (arL [] (M.2.2.1 83)) = M := by
      have : arL [] (M.2.2.1 83) = M.2.2.1 83 := by
        funext j
        unfold arL
        exact if_neg (Nat.not_lt_zero j)
      rw [this, sa_id]
    have st : wL M [] = si M 60 34 0 := by
      show si (sa M 83 (arL [] (M.2.2.1 83))) 60 34 (nI 0) = _
      rw [w0, nI_0]
    rw [st] at e2
    have e5 : ∀ l, (wL M l).1 60 34 = nI l.length := fun l => by rw [ri_i, if_pos rfl, if_pos rfl]
    have e6 : ∀ l, (wL M l).2.2.1 83 = arL l (M.2.2.1 83) := fun l => by rw [ri_2, ra_a, if_pos rfl]
    have run : ∃ l, (l = if (trL V K (S.2.2.1 6) (MB V K) 0).length = 0 then [48] else trL V K (S.2.2.1 6) (MB V K) 0) ∧ J_X10_writes 60 (Wd M) = some (Wd (wL M l)) ∧ l.length ≤ 400 := by
      unfold J_X10_writes
      rw [wr_60, wp_60_34, bs, rLet_eq, e2, wf_60_34, bs, e5]
      by_cases h0 : (trL V K (S.2.2.1 6) (MB V K) 0).length = 0
      · have hn : trL V K (S.2.2.1 6) (MB V K) 0 = [] := List.length_eq_zero_iff.mp h0
        refine ⟨[48], by rw [if_pos h0], ?_, by decide⟩
        rw [h0, if_pos nI_0, write60 (by omega), bs, hn]
        rfl
      · refine ⟨trL V K (S.2.2.1 6) (MB V K) 0, by rw [if_neg h0], ?_, e3⟩
        rw [if_neg (nI_ne0 (by omega) (by omega))]
    obtain ⟨l, hl, r1, r2⟩ := run
    have cls : J_X9_written 0 (nI i) (Wd S) = some (if i < l.length then l.getD i 0 else -5) := by
      unfold J_X9_written J_X5_signWritten
      rw [wr_0, if_pos hx, wf_0_0, bs, wf_1_1, bs, wr_5, rLet_eq, e1]
      by_cases h0 : (trL V K (S.2.2.1 6) (MB V K) 0).length = 0
      · rw [if_pos h0] at hl
        rw [h0, if_neg (Nat.not_lt_zero i), hl]
        by_cases hi0 : i = 0
        · subst hi0
          rw [if_pos nI_0, bs]
          rfl
        · have h5 : ¬ i < [(48 : Int32)].length := by show ¬ i < 1; omega
          rw [if_neg (nI_ne0 (by omega) hi), if_neg h5, bs]
      · rw [if_neg h0] at hl
        rw [hl]
        by_cases hi2 : i < (trL V K (S.2.2.1 6) (MB V K) 0).length
        · rw [if_pos hi2, if_pos hi2, bs]
        · rw [if_neg hi2, if_neg hi2, if_neg (nI_ne0 (by omega) hi), bs]
    refine ⟨_, wL M l, cls, ?_, hR, by repeat (first | exact cE_r _ | refine cE_a (by decide) ?_ | refine cE_i (by decide) ?_ | refine cE_j ?_)⟩
    unfold J_X10_written
    rw [wr_60, if_pos hx, r1, bs, wf_60_34, bs, e5]
    by_cases hi2 : i < l.length
    · have i600 : i < 600 := by omega
      rw [if_neg (nI_ge hi2 (by omega)), if_pos hi2, wf_60_33, bs, wa_83 i600, bs, e6]
      unfold arL
      rw [if_pos hi2]
    · rw [if_pos (nI_le (by omega) hi), if_neg hi2]
  · refine ⟨-1, M, ?_, ?_, hR, cE_r M⟩
    · unfold J_X9_written
      rw [wr_0, if_neg hx]
    · unfold J_X10_written
      rw [wr_60, if_neg hx]

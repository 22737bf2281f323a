/-! TEXTS: length and charAt of a constant text -/
def tLen (u : UInt32) : Option Int32 := if u.toNat < rTxN then some (nI (rTxLen.getD u.toNat 0)) else none
def tChr (u : UInt32) (i : Int32) : Option Int32 := if u.toNat < rTxN then (if i < 0 ∨ rTxLen.getD u.toNat 0 ≤ i.toNatClampNeg then none else some ((rTxByt.getD u.toNat []).getD i.toNatClampNeg 0 &&& 255)) else none
theorem tLen_some {u : UInt32} {x : Int32} (h : tLen u = some x) : u.toNat < rTxN ∧ x = nI (rTxLen.getD u.toNat 0) := by
  unfold tLen at h
  split at h
  · rename_i hu; cases h; exact ⟨hu, rfl⟩
  · cases h
theorem tChr_some {u : UInt32} {i x : Int32} (h : tChr u i = some x) : u.toNat < rTxN ∧ vp_in i (rTxLen.getD u.toNat 0) ∧ x = (rTxByt.getD u.toNat []).getD i.toNatClampNeg 0 &&& 255 := by
  unfold tChr at h
  split at h
  · rename_i hu
    split at h
    · cases h
    · rename_i hi; cases h; exact ⟨hu, hi, rfl⟩
  · cases h
theorem tx_v {u : UInt32} (hu : u.toNat < rTxN) : (u + 1000).toNat = 1000 + u.toNat := by
  have h1 : u.toNat < 16 := Nat.lt_of_lt_of_le hu (by decide)
  rw [UInt32.toNat_add]
  show (u.toNat + 1000) % _ = _
  omega
theorem tx_len : ∀ i, i < rTxN → rTxLen.getD i 0 < 100 := by decide +kernel
theorem E_coder {u : UInt32} (w : rW) (hu : u.toNat < rTxN) : rMet mJ0_coder_7d493 0 0 0 [.float u] w (rIs (some (.int 0)) w) := by
  refine rMet_of (by decide) rfl ?_
  refine rv_getsC fl_J0_38 dJ0_coder_7d493_0 ?_
  refine rv_if_eq 13 dJ0_coder_7d493_3 (by decide) (fun h => absurd h (by decide)) (fun _ => ?_)
  refine rv_aload_nT 0 dJ0_coder_7d493_6 rfl ?_
  refine rv_getTc hu fl_J0_15 dJ0_coder_7d493_7 ?_
  refine rv_goto 14 dJ0_coder_7d493_10 (by decide) ?_
  exact rv_iret .byte dJ0_coder_7d493_14 rfl (by decide) ⟨rfl, rfl⟩
theorem E_isLatin1 {u : UInt32} (w : rW) (hu : u.toNat < rTxN) : rMet mJ0_isLatin1_aae02 0 0 0 [.float u] w (rIs (some (.int 1)) w) := by
  refine rMet_of (by decide) rfl ?_
  refine rv_getsC fl_J0_38 dJ0_isLatin1_aae02_0 ?_
  refine rv_if_eq 17 dJ0_isLatin1_aae02_3 (by decide) (fun h => absurd h (by decide)) (fun _ => ?_)
  refine rv_aload_nT 0 dJ0_isLatin1_aae02_6 rfl ?_
  refine rv_getTc hu fl_J0_15 dJ0_isLatin1_aae02_7 ?_
  refine rv_if_ne 17 dJ0_isLatin1_aae02_10 (by decide) (fun h => absurd rfl h) (fun _ => ?_)
  refine rv_iconst (v := 1) dJ0_isLatin1_aae02_13 (by decide) ?_
  refine rv_goto 18 dJ0_isLatin1_aae02_14 (by decide) ?_
  exact rv_iret .boolean dJ0_isLatin1_aae02_18 rfl (by decide) ⟨rfl, rfl⟩
theorem E_length {u : UInt32} {x : Int32} (w : rW) (h : tLen u = some x) : rMet mJ0_length_8abf5 1 0 0 [.float u] w (rIs (some (.int x)) w) := by
  obtain ⟨hu, rfl⟩ := tLen_some h
  refine rMet_of (by decide) rfl ?_
  refine rv_aload_nT 0 dJ0_length_8abf5_0 rfl ?_
  refine rv_getTv hu (tx_v hu) fl_J0_9 dJ0_length_8abf5_1 ?_
  refine rv_Tlen hu (tx_v hu) dJ0_length_8abf5_4 ?_
  refine rv_aload_nT 0 dJ0_length_8abf5_5 rfl ?_
  refine rv_callT (k3 := 0) (n3 := 0) (st2 := [.int (Int32.ofNat (rTxLen.getD u.toNat 0))]) caJ0_coder_7d493 cvJ0_coder_7d493 ml_J0_335 dJ0_length_8abf5_6 rfl (E_coder w hu) hu rfl rfl rfl rfl rfl ?_
  refine rv_ishr dJ0_length_8abf5_9 ?_
  rw [sb_shr0]
  exact rv_iret .int dJ0_length_8abf5_10 rfl rfl ⟨rfl, rfl⟩
theorem E_checkIndexP {i : Int32} {N : Nat} (hN : N < 2 ^ 31) (hi : vp_in i N) (v : Value) (hv : v = .null ∨ v = .float 5000) (w : rW) : rMet mJ3_checkIndex_8e157 0 0 0 [.int i, .int (Int32.ofNat N), v] w (rIs (some (.int i)) w) := by
  have h1 : ¬ i < 0 := fun q => hi (Or.inl q)
  have h2 : i < Int32.ofNat N := by
    obtain ⟨j, hj, rfl⟩ := vp_in_of hi hN
    exact nI_lt hj hN
  have hl : Nat.ble (lg_sl [.int i, .int (Int32.ofNat N), v]).length 3 = true := by rcases hv with rfl | rfl <;> rfl
  refine rMet_of (by decide) hl ?_
  refine rv_iload_n 0 dJ3_checkIndex_8e157_0 rfl ?_
  refine rv_if_lt 9 dJ3_checkIndex_8e157_1 (by decide) (fun h => absurd h h1) (fun _ => ?_)
  refine rv_iload_n 0 dJ3_checkIndex_8e157_4 rfl ?_
  refine rv_iload_n 1 dJ3_checkIndex_8e157_5 rfl ?_
  refine rv_icmp_lt 16 dJ3_checkIndex_8e157_6 (by decide) (fun _ => ?_) (fun h => absurd h2 h)
  refine rv_iload_n 0 dJ3_checkIndex_8e157_16 rfl ?_
  exact rv_iret .int dJ3_checkIndex_8e157_17 rfl rfl ⟨rfl, rfl⟩
theorem E_checkIndexS {i : Int32} {N : Nat} (hN : N < 2 ^ 31) (hi : vp_in i N) (w : rW) : rMet mJ0_checkIndex_df160 1 0 0 [.int i, .int (Int32.ofNat N)] w (rIs none w) := by
  refine rMet_of (by decide) rfl ?_
  refine rv_iload_n 0 dJ0_checkIndex_df160_0 rfl ?_
  refine rv_iload_n 1 dJ0_checkIndex_df160_1 rfl ?_
  refine rv_getsF fl_J0_1053 dJ0_checkIndex_df160_2 (fun v hv => ?_)
  refine rv_callS (k3 := 0) (n3 := 0) (As := [.int i, .int (Int32.ofNat N), v]) (st2 := []) caJ3_checkIndex_8e157 csJ3_checkIndex_8e157 ml_J0_1059 dJ0_checkIndex_df160_5 rfl (E_checkIndexP hN hi v hv w) rfl rfl rfl rfl rfl ?_
  refine rv_pop dJ0_checkIndex_df160_8 rfl ?_
  exact rv_vret dJ0_checkIndex_df160_9 rfl ⟨rfl, rfl⟩
theorem rv_i2c {Z : rG → Prop} {M : rM} {d k n pc : Nat} {l : List (Nat × Value)} {st : List Value} {w : rW} {Q : Option Value → rW → Prop} {x : Int32} (hd : decode M.2.1 pc = .ok (.i2c, 1)) (kk : rEvZ Z M d k n (pc + 1) l (.int (x.toUInt32 % 65536).toInt32 :: st) w Q) : rEvZ Z M d k n pc l (.int x :: st) w Q := by
  intro p lau e R s m args below meth c G H locs cells slots mc ms ls Qm X hl hE
  exact lv_i2c X.1.1 X.1.2.1 hd rfl (kk p lau e R s m args below meth c G H locs cells slots mc ms ls Qm X hl hE)
theorem E_charAtL {u : UInt32} {i : Int32} (hu : u.toNat < rTxN) (hi : vp_in i (rTxLen.getD u.toNat 0)) (w : rW) : rMet mJ1_charAt_3b067 2 0 0 [.float (u + 1000), .int i] w (rIs (some (.int ((rTxByt.getD u.toNat []).getD i.toNatClampNeg 0 &&& 255))) w) := by
  refine rMet_of (by decide) rfl ?_
  refine rv_iload_n 1 dJ1_charAt_3b067_0 rfl ?_
  refine rv_aload_nT 0 dJ1_charAt_3b067_1 rfl ?_
  refine rv_Tlen hu (tx_v hu) dJ1_charAt_3b067_2 ?_
  refine rv_callS (k3 := 0) (n3 := 0) (As := [.int i, .int (Int32.ofNat (rTxLen.getD u.toNat 0))]) (st2 := []) caJ0_checkIndex_df160 csJ0_checkIndex_df160 ml_J1_9 dJ1_charAt_3b067_3 rfl (E_checkIndexS (Nat.lt_trans (tx_len _ hu) (by decide)) hi w) rfl rfl rfl rfl rfl ?_
  refine rv_aload_nT 0 dJ1_charAt_3b067_6 rfl ?_
  refine rv_iload_n 1 dJ1_charAt_3b067_7 rfl ?_
  refine rv_Tb hu (tx_v hu) hi dJ1_charAt_3b067_8 ?_
  refine rv_sipush (v := 255) dJ1_charAt_3b067_9 (by decide) ?_
  refine rv_iand dJ1_charAt_3b067_12 ?_
  refine rv_i2c dJ1_charAt_3b067_13 ?_
  rw [sc_c2]
  exact rv_iret .char dJ1_charAt_3b067_14 rfl (sc_nar _) ⟨rfl, rfl⟩
theorem E_charAt {u : UInt32} {i x : Int32} (w : rW) (h : tChr u i = some x) : rMet mJ0_charAt_5068e 3 0 0 [.float u, .int i] w (rIs (some (.int x)) w) := by
  obtain ⟨hu, hi, rfl⟩ := tChr_some h
  refine rMet_of (by decide) rfl ?_
  refine rv_aload_nT 0 dJ0_charAt_5068e_0 rfl ?_
  refine rv_callT (k3 := 0) (n3 := 0) (As := []) (st2 := []) caJ0_isLatin1_aae02 cvJ0_isLatin1_aae02 ml_J0_492 dJ0_charAt_5068e_1 rfl (E_isLatin1 w hu) hu rfl rfl rfl rfl rfl ?_
  refine rv_if_eq 16 dJ0_charAt_5068e_4 (by decide) (fun h => absurd h (by decide)) (fun _ => ?_)
  refine rv_aload_nT 0 dJ0_charAt_5068e_7 rfl ?_
  refine rv_getTv hu (tx_v hu) fl_J0_9 dJ0_charAt_5068e_8 ?_
  refine rv_iload_n 1 dJ0_charAt_5068e_11 rfl ?_
  refine rv_callS (k3 := 0) (n3 := 0) (As := [.float (u + 1000), .int i]) (st2 := []) caJ1_charAt_3b067 csJ1_charAt_3b067 ml_J0_495 dJ0_charAt_5068e_12 rfl (E_charAtL hu hi w) rfl rfl rfl rfl rfl ?_
  exact rv_iret .char dJ0_charAt_5068e_15 rfl (sc_nar _) ⟨rfl, rfl⟩

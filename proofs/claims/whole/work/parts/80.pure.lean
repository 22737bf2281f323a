theorem law_pure {L : Nat} (hL : L ≤ 3072) {xs : Nat → Int32} : ∃ w0, J_L_law L xs [] = some (true, w0) := sorry

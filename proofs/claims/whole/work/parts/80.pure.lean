/-! every list of calls: both objects answer alike to the end -/
theorem law_pure {L : Nat} (hL : L ≤ 3072) {xs : Nat → Int32} : ∃ w0 : rW, J_L_law L xs [] = some (true, w0) := by
  obtain ⟨S, g, e⟩ := start
  obtain ⟨w, hw⟩ := law_all hL xs 512 2000 0 6 3 2 S (by omega) (by omega) (by omega) g
  refine ⟨w, ?_⟩
  rw [e]
  exact hw

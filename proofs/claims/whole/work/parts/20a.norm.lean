/-! a normal form that simp doesn't take for a permutation -/
theorem sa_sx {S : rSt} {a b : Nat} {f g : Nat → Int32} (h : a < b) : sa (sa S b g) a f = sa (sa S a f) (0 + b) g := by
  rw [Nat.zero_add]; exact sa_sw h
theorem sj_sx {S : rSt} {a b : Nat} {f g : Nat → Int64} (h : a < b) : sj (sj S b g) a f = sj (sj S a f) (0 + b) g := by
  rw [Nat.zero_add]; exact sj_sw h
theorem si_x1 {S : rSt} {a b k j : Nat} {x y : Int32} (h : a < b) : si (si S b j y) a k x = si (si S a k x) (0 + b) j y := by
  rw [Nat.zero_add]; exact si_sw1 h
theorem si_x2 {S : rSt} {a k j : Nat} {x y : Int32} (h : k < j) : si (si S a j y) a k x = si (si S a k x) a (0 + j) y := by
  rw [Nat.zero_add]; exact si_sw2 h
theorem sl_x1 {S : rSt} {a b k j : Nat} {x y : Int64} (h : a < b) : sl (sl S b j y) a k x = sl (sl S a k x) (0 + b) j y := by
  rw [Nat.zero_add]; exact sl_sw1 h
theorem sl_x2 {S : rSt} {a k j : Nat} {x y : Int64} (h : k < j) : sl (sl S a j y) a k x = sl (sl S a k x) a (0 + j) y := by
  rw [Nat.zero_add]; exact sl_sw2 h

theorem fx_upk (f : Nat → Int) (k : Nat) (x : Int) : fx_up f k x k = x := by simp [fx_up]
theorem fx_upn (f : Nat → Int) {k q : Nat} (x : Int) (h : q ≠ k) : fx_up f k x q = f q := by simp [fx_up, h]

/-! the reference reads a stroke -/
def y_ps (M : fx_M) (i t u : Nat) (rd : Nat → Int) : fx_M := fx_set (fx_set M 69 rd) 56 (fx_up (fx_up (fx_up (M 56) 18 i) 17 t) 19 u)
theorem y_ps_56 {M : fx_M} {i t u : Nat} {rd : Nat → Int} : y_ps M i t u rd 56 = fx_up (fx_up (fx_up (M 56) 18 i) 17 t) 19 u := by unfold y_ps; rw [fx_sk]
theorem y_ps_18 {M : fx_M} {i t u : Nat} {rd : Nat → Int} : y_ps M i t u rd 56 18 = (i : Int) := by rw [y_ps_56, fx_upn _ _ (by omega), fx_upn _ _ (by omega), fx_upk]
theorem y_ps_17 {M : fx_M} {i t u : Nat} {rd : Nat → Int} : y_ps M i t u rd 56 17 = (t : Int) := by rw [y_ps_56, fx_upn _ _ (by omega), fx_upk]
theorem y_ps_19 {M : fx_M} {i t u : Nat} {rd : Nat → Int} : y_ps M i t u rd 56 19 = (u : Int) := by rw [y_ps_56, fx_upk]
theorem y_ps_k {M : fx_M} {i t u k : Nat} {rd : Nat → Int} (h1 : k ≠ 17) (h2 : k ≠ 18) (h3 : k ≠ 19) : y_ps M i t u rd 56 k = M 56 k := by rw [y_ps_56, fx_upn _ _ h3, fx_upn _ _ h1, fx_upn _ _ h2]
theorem y_ps_69 {M : fx_M} {i t u : Nat} {rd : Nat → Int} : y_ps M i t u rd 69 = rd := by unfold y_ps; rw [fx_sn (by omega), fx_sk]
theorem y_ps_r {M : fx_M} {i t u r : Nat} {rd : Nat → Int} (h1 : r ≠ 56) (h2 : r ≠ 69) : y_ps M i t u rd r = M r := by unfold y_ps; rw [fx_sn h1, fx_sn h2]
theorem fx_upc (f : Nat → Int) {k q : Nat} (x y : Int) (h : k ≠ q) : fx_up (fx_up f k x) q y = fx_up (fx_up f q y) k x := by
  funext j
  show (if j = q then y else if j = k then x else f j) = (if j = k then x else if j = q then y else f j)
  by_cases h1 : j = q
  · rw [if_pos h1, if_neg (by omega), if_pos h1]
  · rw [if_neg h1, if_neg h1]
theorem y_ps_at {M : fx_M} {i t u j : Nat} {rd : Nat → Int} : fx_set (y_ps M i t u rd) 56 (fx_up (y_ps M i t u rd 56) 18 (j : Int)) = y_ps M j t u rd := by
  rw [y_ps_56]
  unfold y_ps
  rw [fx_ss]
  congr 1
  rw [fx_upc _ _ _ (show 19 ≠ 18 by omega), fx_upc _ _ _ (show 17 ≠ 18 by omega), fx_upup]
section PAR
variable {X : fx_Sc} {M M' : fx_M}
theorem evm_accepts {n i t u s : Nat} {b : Bool} {rd : Nat → Int} (h : mT (y_ps M i t u rd) n i u) (hs : 33 ≤ s ∧ s ≤ 126) : Ev X 146 0 [fx_f 56, .inl (s : Int), .inl (if b = true then 1 else 0), fx_u] [] (y_ps M i t u rd) (some (.inl (if (b && decide (tc (M 70) n i = (s : Int))) = true then 1 else 0))) (y_ps M (if (b && decide (tc (M 70) n i = (s : Int))) = true then i + 1 else i) t u rd) := by
  have sg := evm_isSign (X := X) (a := (s : Int)) (b := (s : Int)) h (by omega) (by omega) (by omega)
  rw [y_ps_r (by omega) (by omega)] at sg
  have stay : ∀ j, j = i → y_ps M j t u rd = fx_set (y_ps M i t u rd) 56 (fx_up (y_ps M i t u rd 56) 18 (y_ps M i t u rd 56 18 + 0)) := fun j hj => by rw [hj, y_ps_18, Int.add_zero, y_ps_at]
  cases b with
  | false =>
    rw [if_neg (by simp), Bool.false_and, if_neg (by simp), if_neg (by simp)]
    exact Ev.mem (stay i rfl).symm (r146_0T (by omega) rfl r146_9)
  | true =>
    rw [if_pos rfl, Bool.true_and]
    refine r146_0F (by omega) (by omega) (r146_2 sg ?_)
    by_cases q : tc (M 70) n i = (s : Int)
    · rw [if_pos (by omega), if_pos (by simp [q]), if_pos (by simp [q])]
      have go : y_ps M (i + 1) t u rd = fx_set (y_ps M i t u rd) 56 (fx_up (y_ps M i t u rd 56) 18 (y_ps M i t u rd 56 18 + 1)) := by
        rw [y_ps_18, show (i : Int) + 1 = ((i + 1 : Nat) : Int) by push_cast; rfl, y_ps_at]
      rw [go]
      exact r146_6F (by omega) (by omega) r146_7
    · rw [if_neg (by omega), if_neg (by simp [q]), if_neg (by simp [q])]
      exact Ev.mem (stay i rfl).symm (r146_6T (by omega) rfl r146_9)
end PAR

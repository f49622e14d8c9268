section PAS
variable {X : fx_Sc} {M M' : fx_M}
theorem mT_ps {n i t u : Nat} {rd : Nat → Int} (hn : n ≤ 60) (h15 : M 56 15 = (n : Int)) (hc : ∀ k, k < n → 33 ≤ M 70 k ∧ M 70 k ≤ 126) (hu : u < 2 ^ 24) (hi : i ≤ 60) : mT (y_ps M i t u rd) n i u :=
  ⟨hn, by rw [y_ps_k (by omega) (by omega) (by omega)]; exact h15, y_ps_18, y_ps_19, by rw [y_ps_r (by omega) (by omega)]; exact hc, hu, hi⟩
/-- a stroke is put down -/
theorem evm_r122 {t u e e2 i : Nat} {rd : Nat → Int} {x1 x2 x3 x4 : Int} (ht : t < 16) (hu : u < 2 ^ 24) (he : e < 24) (he2 : e2 < 24) : Ev X 139 122 [fx_f 56, .inl x1, .inl x2, .inl x3, .inl x4, .inl (e : Int), .inl (e2 : Int)] [] (y_ps M i t u rd) (some (.inl 1)) (y_ps M (i + 1) (t + 1) (u ||| (2 ^ e ||| 2 ^ e2)) (fx_up (fx_up rd (2 * t) e) (2 * t + 1) e2)) := by
  have e24 : (2 : Nat) ^ 24 = 16777216 := by decide
  have p1 : (2 : Nat) ^ e < 2 ^ 24 := Nat.pow_lt_pow_right (by omega) he
  have p2 : (2 : Nat) ^ e2 < 2 ^ 24 := Nat.pow_lt_pow_right (by omega) he2
  have p3 := Nat.or_lt_two_pow (n := 24) p1 p2
  have s1 : fx_set (y_ps M i t u rd) 56 (fx_up (y_ps M i t u rd 56) 18 (y_ps M i t u rd 56 18 + 1)) = y_ps M (i + 1) t u rd := by
    rw [y_ps_18, show (i : Int) + 1 = ((i + 1 : Nat) : Int) by push_cast; rfl, y_ps_at]
  have s2 : ∀ (i t u : Nat) (rd f : Nat → Int), fx_set (y_ps M i t u rd) 69 f = y_ps M i t u f := by
    intro i t u rd f
    unfold y_ps
    rw [fx_sc (by omega), fx_ss]
  have s3 : ∀ (i t u v : Nat) (rd : Nat → Int), fx_set (y_ps M i t u rd) 56 (fx_up (y_ps M i t u rd 56) 19 (v : Int)) = y_ps M i t v rd := by
    intro i t u v rd
    rw [y_ps_56]
    unfold y_ps
    rw [fx_ss, fx_upup]
  have s4 : ∀ (i t u v : Nat) (rd : Nat → Int), fx_set (y_ps M i t u rd) 56 (fx_up (y_ps M i t u rd 56) 17 (v : Int)) = y_ps M i v u rd := by
    intro i t u v rd
    rw [y_ps_56]
    unfold y_ps
    rw [fx_ss]
    congr 1
    rw [fx_upc _ _ _ (show 19 ≠ 17 by omega), fx_upup]
  have n1 : (2 * (t : Int)).toNat = 2 * t := by omega
  have n2 : (2 * (t : Int) + 1).toNat = 2 * t + 1 := by omega
  have v1 : fx_or (u : Int) (fx_or (fx_shl 1 (e : Int)) (fx_shl 1 (e2 : Int))) = ((u ||| (2 ^ e ||| 2 ^ e2) : Nat) : Int) := by
    rw [pb_shl1 _ (by omega), pb_shl1 _ (by omega), pb_or (by omega) (by omega), pb_or (by omega) (by omega)]
  refine Ev.mem ?_ (r139_122 ?_)
  · simp only [s1, s2, y_ps_17, y_ps_19, y_ps_69, n1, n2, v1, s3]
    rw [show (t : Int) + 1 = ((t + 1 : Nat) : Int) by push_cast; rfl, s4]
  · simp only [s1, s2, y_ps_17, y_ps_69, n1]
    omega
end PAS

/-! the best slide, the best exchange: no other is better -/
theorem bs_le {Q : Int → Bool} {V : Int → Nat} {w : Nat} : ∀ n : Nat, (bs Q V w n).2 ≤ (w : Int) ∧ ∀ k, k < n → Q (cS k) = true → (bs Q V w n).2 ≤ (V (cS k) : Int) := by
  intro n
  induction n with
  | zero => exact ⟨Int.le_refl _, fun k hk => by omega⟩
  | succ n ih =>
    obtain ⟨h1, h2⟩ := ih
    by_cases h : Q (cS n) = true ∧ (V (cS n) : Int) < (bs Q V w n).2
    · rw [bs_1 h]
      refine ⟨by show (V (cS n) : Int) ≤ w; omega, fun k hk hQ => ?_⟩
      show (V (cS n) : Int) ≤ V (cS k)
      by_cases q : k = n
      · rw [q]; exact Int.le_refl _
      · have := h2 k (by omega) hQ
        omega
    · rw [bs_2 h]
      refine ⟨h1, fun k hk hQ => ?_⟩
      by_cases q : k = n
      · subst q
        apply Int.not_lt.mp
        intro z
        exact h ⟨hQ, z⟩
      · exact h2 k (by omega) hQ
theorem bs_is {Q : Int → Bool} {V : Int → Nat} {w : Nat} : ∀ n : Nat, n ≤ 22 → ((bs Q V w n).1 = 0 ∧ (bs Q V w n).2 = (w : Int)) ∨ ∃ k, k < n ∧ Q (cS k) = true ∧ (bs Q V w n).1 = cS k ∧ (bs Q V w n).2 = (V (cS k) : Int) := by
  intro n
  induction n with
  | zero => intro _; exact Or.inl ⟨rfl, rfl⟩
  | succ n ih =>
    intro hn
    by_cases h : Q (cS n) = true ∧ (V (cS n) : Int) < (bs Q V w n).2
    · rw [bs_1 h]
      exact Or.inr ⟨n, by omega, h.1, rfl, rfl⟩
    · rw [bs_2 h]
      rcases ih (by omega) with h1 | ⟨k, h1, h2, h3, h4⟩
      · exact Or.inl h1
      · exact Or.inr ⟨k, by omega, h2, h3, h4⟩
theorem cS_0 (k : Nat) : cS k ≠ 0 := by
  unfold cS
  split <;> omega
theorem cS_of {x : Int} (hx : -12 < x ∧ x < 12) (h0 : x ≠ 0) : ∃ k, k < 22 ∧ cS k = x := by
  by_cases h : x < 0
  · refine ⟨2 * (-x - 1).toNat, by omega, ?_⟩
    unfold cS
    rw [if_pos (by omega)]
    omega
  · refine ⟨2 * (x - 1).toNat + 1, by omega, ?_⟩
    unfold cS
    rw [if_neg (by omega)]
    omega
theorem bx_le {V : Nat → Nat → Nat} {w : Int} : ∀ n : Nat, ∀ k, k < n → k / 6 < k % 6 → (bx V w n).2 ≤ (V (k / 6) (k % 6) : Int) := by
  intro n
  induction n with
  | zero => intro k hk; omega
  | succ n ih =>
    intro k hk hl
    by_cases h : n / 6 < n % 6 ∧ (V (n / 6) (n % 6) : Int) < (bx V w n).2
    · rw [bx_1 h]
      show (V (n / 6) (n % 6) : Int) ≤ V (k / 6) (k % 6)
      by_cases q : k = n
      · rw [q]; exact Int.le_refl _
      · have := ih k (by omega) hl
        omega
    · rw [bx_2 h]
      by_cases q : k = n
      · subst q
        apply Int.not_lt.mp
        intro z
        exact h ⟨hl, z⟩
      · exact ih k (by omega) hl
theorem bx_is {V : Nat → Nat → Nat} {w : Int} : ∀ n : Nat, (bx V w n).2 = w ∨ ∃ k, k < n ∧ k / 6 < k % 6 ∧ (bx V w n).1 = 10 * ((k / 6 : Nat) : Int) + ((k % 6 : Nat) : Int) ∧ (bx V w n).2 = (V (k / 6) (k % 6) : Int) := by
  intro n
  induction n with
  | zero => exact Or.inl rfl
  | succ n ih =>
    by_cases h : n / 6 < n % 6 ∧ (V (n / 6) (n % 6) : Int) < (bx V w n).2
    · rw [bx_1 h]
      exact Or.inr ⟨n, by omega, h.1, rfl, rfl⟩
    · rw [bx_2 h]
      rcases ih with h1 | ⟨k, h1, h2, h3, h4⟩
      · exact Or.inl h1
      · exact Or.inr ⟨k, by omega, h2, h3, h4⟩
/-- the best exchange is one of two panels, and none is better -/
theorem bx_all {V : Nat → Nat → Nat} (hV : ∀ p q, V p q ≤ 60) : (∀ p q, p < q → q < 6 → (bx V 145 36).2 ≤ (V p q : Int)) ∧ ∃ p q : Nat, p < q ∧ q < 6 ∧ (bx V 145 36).1 = ((10 * p + q : Nat) : Int) ∧ (bx V 145 36).2 = (V p q : Int) := by
  have le : ∀ p q, p < q → q < 6 → (bx V 145 36).2 ≤ (V p q : Int) := by
    intro p q h1 h2
    have := bx_le (V := V) (w := 145) 36 (6 * p + q) (by omega) (by omega)
    rw [show (6 * p + q) / 6 = p by omega, show (6 * p + q) % 6 = q by omega] at this
    exact this
  refine ⟨le, ?_⟩
  rcases bx_is (V := V) (w := 145) 36 with h | ⟨k, h1, h2, h3, h4⟩
  · have := le 0 1 (by omega) (by omega)
    have := hV 0 1
    omega
  · exact ⟨k / 6, k % 6, h2, by omega, by rw [h3]; push_cast; rfl, h4⟩
theorem z_swp_sym {O : Nat → Int} {p q : Nat} (hpq : p ≠ q) : z_swp O p q 24 = z_swp O q p 24 := by
  funext k
  unfold z_swp
  by_cases h1 : 24 * p ≤ k ∧ k < 24 * p + 24
  · rw [if_pos h1, if_neg (by omega), if_pos h1]
  · rw [if_neg h1]
    by_cases h2 : 24 * q ≤ k ∧ k < 24 * q + 24
    · rw [if_pos h2, if_pos h2]
    · rw [if_neg h2, if_neg h2, if_neg h1]
theorem vX_sym {O : Nat → Int} {p q : Nat} (hpq : p ≠ q) : vX O p q = vX O q p := by
  unfold vX
  rw [z_swp_sym hpq]
theorem vX_le {O : Nat → Int} {p q : Nat} (hp : p < 6) (hq : q < 6) (hpq : p ≠ q) : (bx (vX O) 145 36).2 ≤ (vX O p q : Int) := by
  have a := (bx_all (V := vX O) (vX_b O)).1
  by_cases h : p < q
  · exact a p q h hq
  · rw [vX_sym hpq]
    exact a q p (by omega) hp

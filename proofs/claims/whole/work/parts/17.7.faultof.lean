/-! the reference: the fault of a text -/
theorem ro_D {T : Nat → Int} {n t : Nat} (h : ro T n t = true) : tf T n t ≠ ts T n t ∧ (tm T n t).testBit (tf T n t) = false ∧ (tm T n t).testBit (ts T n t) = false := by
  unfold ro at h
  rw [Bool.and_eq_true, Bool.and_eq_true] at h
  obtain ⟨h0, h1, h2⟩ := h
  have l0 := tst_0 h0
  have l2 := tst_2 h2
  have b0 := tl_b T n (4 * t)
  have b2 := tl_b T n (4 * t + 2)
  rw [tst_v1] at h1
  rw [tst_v2] at h2
  rw [Bool.and_eq_true] at h1 h2
  rw [Bool.and_eq_true] at h2
  obtain ⟨-, h1⟩ := h1
  obtain ⟨-, h2, h3⟩ := h2
  have u2 : (tm T n t).testBit (ts T n t) = false := by
    unfold un at h2
    rwa [Bool.not_eq_true'] at h2
  unfold tgo tcd tca tcb at h1
  by_cases s1 : tc T n (4 * t + 1) = 124
  · rw [s1] at h1
    simp only [decide_true, Bool.true_and, show decide ((124 : Int) = 94) = false from rfl, show decide ((124 : Int) = 95) = false from rfl, Bool.false_and, Bool.or_false, Bool.and_eq_true] at h1
    have e1 : tf T n t = (tl T n (4 * t)).toNat := by unfold tf; rw [s1, if_neg (by omega)]
    have e2 : ts T n t = (12 + tl T n (4 * t + 2)).toNat := by unfold ts; rw [s1, if_neg (by omega)]
    refine ⟨by omega, ?_, u2⟩
    rw [e1]
    have := h1.1
    unfold un at this
    rwa [Bool.not_eq_true'] at this
  · by_cases s2 : tc T n (4 * t + 1) = 94
    · rw [s2] at h1 h3
      simp only [decide_true, Bool.true_and, show decide ((94 : Int) = 124) = false from rfl, show decide ((94 : Int) = 95) = false from rfl, Bool.false_and, Bool.or_false, Bool.false_or, Bool.true_or, Bool.and_eq_true, decide_eq_true_eq] at h1 h3
      have e1 : tf T n t = (tl T n (4 * t)).toNat := by unfold tf; rw [s2, if_neg (by omega)]
      have e2 : ts T n t = (tl T n (4 * t + 2)).toNat := by unfold ts; rw [s2, if_pos rfl]
      refine ⟨by omega, ?_, u2⟩
      rw [e1]
      have := h1.1
      unfold un at this
      rwa [Bool.not_eq_true'] at this
    · by_cases s3 : tc T n (4 * t + 1) = 95
      · rw [s3] at h1 h3
        simp only [decide_true, Bool.true_and, show decide ((95 : Int) = 124) = false from rfl, show decide ((95 : Int) = 94) = false from rfl, Bool.false_and, Bool.or_false, Bool.false_or, Bool.or_true, Bool.and_eq_true, decide_eq_true_eq] at h1 h3
        have e1 : tf T n t = (12 + tl T n (4 * t)).toNat := by unfold tf; rw [s3, if_pos rfl]
        have e2 : ts T n t = (12 + tl T n (4 * t + 2)).toNat := by unfold ts; rw [s3, if_neg (by omega)]
        refine ⟨by omega, ?_, u2⟩
        rw [e1, show (12 + tl T n (4 * t)).toNat = 12 + (tl T n (4 * t)).toNat by omega]
        have := h1.1
        unfold un at this
        rwa [Bool.not_eq_true'] at this
      · simp [s1, s2, s3] at h1
theorem tm_c {T : Nat → Int} {n t : Nat} (h : ∀ k, k < t → ro T n k = true) : pb_c (fun i => (tm T n t).testBit i) 24 = 2 * t := by
  induction t with
  | zero =>
    refine pb_c_none fun i hi => ?_
    rw [tm, Nat.zero_testBit]
  | succ t ih =>
    obtain ⟨d1, d2, d3⟩ := ro_D (h t (by omega))
    have e : (fun i => (tm T n (t + 1)).testBit i) = fun k => ((fun k => (tm T n t).testBit k || k == tf T n t) k) || k == ts T n t := by
      funext k
      rw [tm, Nat.testBit_or, Nat.testBit_or, Nat.testBit_two_pow, Nat.testBit_two_pow, Bool.or_assoc]
      congr 2
      · rw [Bool.eq_iff_iff, decide_eq_true_eq, beq_iff_eq]; exact eq_comm
      · rw [Bool.eq_iff_iff, decide_eq_true_eq, beq_iff_eq]; exact eq_comm
    rw [e, pb_c_one (P := fun k => (tm T n t).testBit k || k == tf T n t) (ts_b T n t) (by rw [d3, Bool.false_or]; simp; omega), pb_c_one (tf_b T n t) d2, ih (fun k hk => h k (by omega))]
    omega
theorem un_c (u : Nat) (m : Nat) : pb_c (un u) m + pb_c (fun i => u.testBit i) m = m := by
  induction m with
  | zero => rfl
  | succ m ih =>
    rw [pb_c, pb_c]
    unfold un at ih ⊢
    cases u.testBit m <;> simp <;> omega
theorem more_iff {T : Nat → Int} {n t : Nat} (h : ∀ k, k < t → ro T n k = true) : 2 ≤ pb_c (un (tm T n t)) 24 ↔ tm T n t ≠ 16777215 := by
  have c := tm_c h
  have s := un_c (tm T n t) 24
  constructor
  · intro q e
    have : ∀ i, i < 24 → (tm T n t).testBit i = true := by
      rw [e]
      decide
    have : pb_c (un (tm T n t)) 24 = 0 := pb_c_none fun i hi => by unfold un; rw [this i hi]; rfl
    omega
  · intro q
    apply Classical.byContradiction
    intro hl
    have h24 : 24 ≤ pb_c (fun i => (tm T n t).testBit i) 24 := by omega
    have all := pb_c_full h24
    refine q (Nat.eq_of_testBit_eq fun i => ?_)
    by_cases hi : i < 24
    · rw [all i hi, show (16777215 : Nat) = 2 ^ 24 - 1 from rfl, Nat.testBit_two_pow_sub_one]
      simp [hi]
    · rw [Nat.testBit_lt_two_pow (Nat.lt_of_lt_of_le (tm_b T n t) (Nat.pow_le_pow_right (by omega) (by omega))), Nat.testBit_lt_two_pow (Nat.lt_of_lt_of_le (show (16777215 : Nat) < 2 ^ 24 by decide) (Nat.pow_le_pow_right (by omega) (by omega)))]
theorem tst_v3 {T : Nat → Int} {n t : Nat} : tst T n (4 * t + 3) = (decide (tc T n (4 * t + 3) = 59) && decide (tm T n (t + 1) ≠ 16777215)) := by
  unfold tst
  rw [if_neg (by omega), if_neg (by omega), if_neg (by omega), show (4 * t + 3) / 4 = t by omega]

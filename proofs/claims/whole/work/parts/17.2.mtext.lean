/-! the reference reads a text: its small questions -/
section PAM
variable {X : fx_Sc} {M M' : fx_M}
/-- the pad of the reference holds a text of n characters and is read at i; u: the ends that are used -/
def mT (M : fx_M) (n i u : Nat) : Prop := n ≤ 60 ∧ M 56 15 = (n : Int) ∧ M 56 18 = (i : Int) ∧ M 56 19 = (u : Int) ∧ (∀ k, k < n → 33 ≤ M 70 k ∧ M 70 k ≤ 126) ∧ u < 2 ^ 24 ∧ i ≤ 60
theorem evm_isSign {n i u : Nat} {a b : Int} (h : mT M n i u) (ha : 33 ≤ a) (hb : b ≤ 126) (hab : a ≤ b) : Ev X 140 0 [fx_f 56, .inl a, .inl b] [] M (some (.inl (if a ≤ tc (M 70) n i ∧ tc (M 70) n i ≤ b then 1 else 0))) M := by
  obtain ⟨h1, h2, h3, h4, h5, h6, h7⟩ := h
  have ei : (i : Int).toNat = i := by omega
  unfold tc
  by_cases hl : i < n
  · have c := h5 i hl
    rw [if_pos hl]
    refine r140_0F (by rw [h2, h3]; omega) (by rw [h2, h3]; omega) ?_
    by_cases q1 : M 70 i < a
    · rw [if_neg (by omega)]
      exact r140_5T (by rw [h3, ei]; omega) (by rw [h3, ei]; exact q1) r140_21
    · refine r140_5F (by rw [h3, ei]; omega) (by rw [h3, ei]; omega) ?_
      by_cases q2 : b < M 70 i
      · rw [if_neg (by omega)]
        exact r140_12T (by rw [h3, ei]; omega) (by rw [h3, ei]; exact q2) r140_21
      · rw [if_pos (by omega)]
        exact r140_12F (by rw [h3, ei]; omega) (by rw [h3, ei]; omega) r140_19
  · rw [if_neg hl, if_neg (by omega)]
    exact r140_0T (by rw [h2, h3]; omega) (by rw [h2, h3]; omega) r140_21
theorem evm_isUnused {u e : Nat} (h : M 56 19 = (u : Int)) (hu : u < 2 ^ 24) (he : e < 24) : Ev X 142 0 [fx_f 56, .inl (e : Int)] [] M (some (.inl (if un u e = true then 1 else 0))) M := by
  have e24 : (2 : Nat) ^ 24 = 16777216 := by decide
  have hb := pb_bit (a := u) (c := e) (by omega) (by omega)
  unfold un
  by_cases ht : u.testBit e = true
  · rw [if_pos ht] at hb
    rw [if_neg (by rw [ht]; simp)]
    exact r142_0T (by rw [h, hb]; omega) (by rw [h, hb]; omega) r142_9
  · rw [if_neg ht] at hb
    rw [if_pos (by rw [Bool.eq_false_iff.mpr ht]; rfl)]
    exact r142_0F (by rw [h, hb]; omega) (by rw [h, hb]) r142_7
theorem anyU_s {u a d : Nat} : anyU u a (a + (d + 1)) = (anyU u a (a + d) || un u (a + d)) := by
  unfold anyU un
  rw [show a + (d + 1) - a = d + 1 by omega, show a + d - a = d by omega]
  have : pb_all (fun i => u.testBit (a + i)) (d + 1) = (pb_all (fun i => u.testBit (a + i)) d && u.testBit (a + d)) := by
    rw [Bool.eq_iff_iff, Bool.and_eq_true, pb_all_iff, pb_all_iff]
    constructor
    · intro h
      exact ⟨fun i hi => h i (by omega), h d (by omega)⟩
    · rintro ⟨h1, h2⟩ i hi
      by_cases q : i = d
      · subst q; exact h2
      · exact h1 i (by omega)
  rw [this]
  cases pb_all (fun i => u.testBit (a + i)) d <;> cases u.testBit (a + d) <;> rfl
theorem anyU_0 {u a : Nat} : anyU u a a = false := by
  rw [Bool.eq_false_iff]
  intro h
  obtain ⟨e, h1, h2, -⟩ := anyU_iff.mp h
  omega
theorem evm_isAny {u a d : Nat} (h : M 56 19 = (u : Int)) (hu : u < 2 ^ 24) (hd : a + d ≤ 24) : Ev X 143 0 [fx_f 56, .inl (a : Int), .inl ((a : Int) + d - 1), fx_u, fx_u] [] M (some (.inl (if anyU u a (a + d) = true then 1 else 0))) M := by
  refine r143_0 ?_
  have main : Ev X 143 4 [fx_f 56, .inl (a : Int), .inl ((a : Int) + d - 1), .inl (if anyU u a (a + 0) = true then 1 else 0), .inl ((a + 0 : Nat) : Int)] [] M (some (.inl (if anyU u a (a + d) = true then 1 else 0))) M := by
    refine Ev.loop d (fun c => [fx_f 56, .inl (a : Int), .inl ((a : Int) + d - 1), .inl (if anyU u a (a + c) = true then 1 else 0), .inl ((a + c : Nat) : Int)]) (fun _ => M) (fun c hc k => ?_) (r143_4T (by omega) (by omega) (r143_19 (by split <;> omega)))
    refine r143_4F (by omega) (by omega) ?_
    have e1 : ((a + c : Nat) : Int) + 1 = ((a + (c + 1) : Nat) : Int) := by push_cast; omega
    rw [anyU_s] at k
    by_cases q : anyU u a (a + c) = true
    · rw [if_pos q]
      rw [q, Bool.true_or, if_pos rfl] at k
      exact r143_7T (by omega) (by omega) (r143_13 (by rw [e1]; exact k))
    · rw [if_neg q]
      rw [Bool.eq_false_iff.mpr q, Bool.false_or] at k
      refine r143_7F (by omega) rfl (r143_9 (evm_isUnused h hu (by omega)) ?_)
      by_cases q2 : un u (a + c) = true
      · rw [if_pos q2] at k ⊢
        exact r143_12F (by omega) (by omega) (r143_13 (by rw [e1]; exact k))
      · rw [if_neg q2] at k ⊢
        exact r143_12T (by omega) rfl (r143_15 (by rw [e1]; exact k))
  rw [Nat.add_zero, anyU_0, if_neg (by simp)] at main
  exact main
theorem evm_canDown {u c : Nat} (h : M 56 19 = (u : Int)) (hu : u < 2 ^ 24) (hc : c < 12) : Ev X 141 0 [fx_f 56, .inl (c : Int)] [] M (some (.inl (if tcd u c = true then 1 else 0))) M := by
  have an := evm_isAny (X := X) (a := 12) (d := 12) h hu (by omega)
  refine r141_0 (evm_isUnused h hu (by omega)) ?_
  unfold tcd
  by_cases q : un u c = true
  · rw [if_pos q, q, Bool.true_and]
    refine r141_3F (by omega) (by omega) (r141_4 an ?_)
    by_cases q2 : anyU u 12 (12 + 12) = true
    · rw [if_pos q2]; exact r141_8F (by omega) (by omega) r141_9
    · rw [if_neg q2]; exact r141_8T (by omega) rfl r141_11
  · rw [if_neg q, Bool.eq_false_iff.mpr q, Bool.false_and, if_neg (by simp)]
    exact r141_3T (by omega) rfl r141_11
theorem evm_canAbove {u c : Nat} (h : M 56 19 = (u : Int)) (hu : u < 2 ^ 24) (hc : c < 12) : Ev X 144 0 [fx_f 56, .inl (c : Int)] [] M (some (.inl (if tca u c = true then 1 else 0))) M := by
  have an := evm_isAny (X := X) (a := c + 1) (d := 11 - c) h hu (by omega)
  rw [show c + 1 + (11 - c) = 12 by omega, show ((c + 1 : Nat) : Int) + ((11 - c : Nat) : Int) - 1 = 11 by omega, show ((c + 1 : Nat) : Int) = (c : Int) + 1 by push_cast; rfl] at an
  refine r144_0 (evm_isUnused h hu (by omega)) ?_
  unfold tca
  by_cases q : un u c = true
  · rw [if_pos q, q, Bool.true_and]
    refine r144_3F (by omega) (by omega) (r144_4 an ?_)
    by_cases q2 : anyU u (c + 1) 12 = true
    · rw [if_pos q2]; exact r144_10F (by omega) (by omega) r144_11
    · rw [if_neg q2]; exact r144_10T (by omega) rfl r144_13
  · rw [if_neg q, Bool.eq_false_iff.mpr q, Bool.false_and, if_neg (by simp)]
    exact r144_3T (by omega) rfl r144_13
theorem evm_canBelow {u c : Nat} (h : M 56 19 = (u : Int)) (hu : u < 2 ^ 24) (hc : c < 12) : Ev X 145 0 [fx_f 56, .inl (c : Int)] [] M (some (.inl (if tcb u c = true then 1 else 0))) M := by
  have an := evm_isAny (X := X) (a := 12 + c + 1) (d := 11 - c) h hu (by omega)
  have i2 : ((12 + c + 1 : Nat) : Int) = 12 + (c : Int) + 1 := by push_cast; rfl
  rw [show 12 + c + 1 + (11 - c) = 24 by omega, show ((12 + c + 1 : Nat) : Int) + ((11 - c : Nat) : Int) - 1 = 23 by omega, i2] at an
  have us := evm_isUnused (X := X) (e := 12 + c) h hu (by omega)
  rw [show ((12 + c : Nat) : Int) = 12 + (c : Int) by push_cast; rfl] at us
  refine r145_0 us ?_
  unfold tcb
  by_cases q : un u (12 + c) = true
  · rw [if_pos q, q, Bool.true_and]
    refine r145_5F (by omega) (by omega) (r145_6 an ?_)
    by_cases q2 : anyU u (12 + c + 1) 24 = true
    · rw [if_pos q2]; exact r145_14F (by omega) (by omega) r145_15
    · rw [if_neg q2]; exact r145_14T (by omega) rfl r145_17
  · rw [if_neg q, Bool.eq_false_iff.mpr q, Bool.false_and, if_neg (by simp)]
    exact r145_5T (by omega) rfl r145_17
theorem evm_isMore {u : Nat} (h : M 56 19 = (u : Int)) (hu : u < 2 ^ 24) : Ev X 147 0 [fx_f 56, fx_u, fx_u] [] M (some (.inl (if 2 ≤ pb_c (un u) 24 then 1 else 0))) M := by
  have hle := pb_c_le (un u) 24
  refine r147_0 ?_
  refine Ev.loop 24 (fun c => [fx_f 56, .inl ((pb_c (un u) c : Nat) : Int), .inl (c : Int)]) (fun _ => M) (fun c hc k => ?_) (r147_4T (by omega) (by omega) ?_)
  · refine r147_4F (by omega) (by omega) (r147_7 (evm_isUnused h hu hc) ?_)
    simp only [pb_c] at k
    by_cases q : un u c = true
    · rw [if_pos q] at k ⊢
      exact r147_11F (by omega) (by omega) (r147_12 k)
    · rw [if_neg q] at k ⊢
      exact r147_11T (by omega) rfl (r147_14 (by rw [Int.add_zero]; exact k))
  · by_cases q : 2 ≤ pb_c (un u) 24
    · rw [if_pos q]; exact r147_19F (by omega) (by omega) r147_22
    · rw [if_neg q]; exact r147_19T (by omega) (by omega) r147_24
end PAM

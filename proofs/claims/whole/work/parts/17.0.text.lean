/-! a text: characters, columns, ends, and the ends that strokes have taken -/
def tc (T : Nat → Int) (n i : Nat) : Int := if i < n then T i else 32
def tl (T : Nat → Int) (n i : Nat) : Int := if 97 ≤ tc T n i ∧ tc T n i ≤ 108 then tc T n i - 97 else -1
def tf (T : Nat → Int) (n t : Nat) : Nat := (if tc T n (4 * t + 1) = 95 then 12 + tl T n (4 * t) else tl T n (4 * t)).toNat
def ts (T : Nat → Int) (n t : Nat) : Nat := (if tc T n (4 * t + 1) = 94 then tl T n (4 * t + 2) else 12 + tl T n (4 * t + 2)).toNat
def tm (T : Nat → Int) (n : Nat) : Nat → Nat
  | 0 => 0
  | t + 1 => tm T n t ||| (2 ^ tf T n t ||| 2 ^ ts T n t)
def un (u e : Nat) : Bool := !u.testBit e
def anyU (u a b : Nat) : Bool := !pb_all (fun i => u.testBit (a + i)) (b - a)
def tcd (u c : Nat) : Bool := un u c && anyU u 12 24
def tca (u c : Nat) : Bool := un u c && anyU u (c + 1) 12
def tcb (u c : Nat) : Bool := un u (12 + c) && anyU u (12 + c + 1) 24
def tgo (u c : Nat) (s : Int) : Bool := (decide (s = 124) && tcd u c) || ((decide (s = 94) && tca u c) || (decide (s = 95) && tcb u c))
/-- whether a character can stand -/
def tst (T : Nat → Int) (n c : Nat) : Bool :=
  if c % 4 = 0 then decide (tl T n c ≠ -1) && (tcd (tm T n (c / 4)) (tl T n c).toNat || (tca (tm T n (c / 4)) (tl T n c).toNat || tcb (tm T n (c / 4)) (tl T n c).toNat))
  else if c % 4 = 1 then decide (tl T n (c - 1) ≠ -1) && tgo (tm T n (c / 4)) (tl T n (c - 1)).toNat (tc T n c)
  else if c % 4 = 2 then decide (tl T n c ≠ -1) && (un (tm T n (c / 4)) (ts T n (c / 4)) && (decide (tc T n (c - 1) = 124) || ((decide (tc T n (c - 1) = 94) || decide (tc T n (c - 1) = 95)) && decide (tl T n (c - 2) < tl T n c))))
  else decide (tc T n c = 59) && decide (tm T n (c / 4 + 1) ≠ 16777215)
theorem tl_b (T : Nat → Int) (n i : Nat) : -1 ≤ tl T n i ∧ tl T n i < 12 := by
  unfold tl
  split <;> omega
theorem tf_b (T : Nat → Int) (n t : Nat) : tf T n t < 24 := by
  have := tl_b T n (4 * t)
  unfold tf
  split <;> omega
theorem ts_b (T : Nat → Int) (n t : Nat) : ts T n t < 24 := by
  have := tl_b T n (4 * t + 2)
  unfold ts
  split <;> omega
theorem tm_b (T : Nat → Int) (n t : Nat) : tm T n t < 2 ^ 24 := by
  induction t with
  | zero => exact Nat.two_pow_pos 24
  | succ t ih =>
    rw [tm]
    exact Nat.or_lt_two_pow ih (Nat.or_lt_two_pow (Nat.pow_lt_pow_right (by omega) (tf_b T n t)) (Nat.pow_lt_pow_right (by omega) (ts_b T n t)))
theorem anyU_iff {u a b : Nat} : anyU u a b = true ↔ ∃ e, a ≤ e ∧ e < b ∧ u.testBit e = false := by
  unfold anyU
  rw [Bool.not_eq_true']
  constructor
  · intro h
    obtain ⟨i, h1, h2, -⟩ := pb_all_no h
    exact ⟨a + i, by omega, by omega, h2⟩
  · rintro ⟨e, h1, h2, h3⟩
    rw [Bool.eq_false_iff]
    intro h
    have := pb_all_iff.mp h (e - a) (by omega)
    rw [show a + (e - a) = e by omega, h3] at this
    cases this
theorem tc_n (T : Nat → Int) (n : Nat) : tst T n n = false := by
  have e : tc T n n = 32 := by unfold tc; rw [if_neg (by omega)]
  have l : tl T n n = -1 := by unfold tl; rw [e, if_neg (by omega)]
  unfold tst
  by_cases h0 : n % 4 = 0
  · rw [if_pos h0, l]; rfl
  · rw [if_neg h0]
    by_cases h1 : n % 4 = 1
    · rw [if_pos h1, e]
      unfold tgo
      simp
    · rw [if_neg h1]
      by_cases h2 : n % 4 = 2
      · rw [if_pos h2, l]; rfl
      · rw [if_neg h2, e]; rfl
/-- the first character that can't stand -/
theorem tf_ex (T : Nat → Int) (n : Nat) : ∃ f, f ≤ n ∧ tst T n f = false ∧ ∀ i, i < f → tst T n i = true := by
  have h : pb_all (tst T n) (n + 1) = false := by
    rw [Bool.eq_false_iff]
    intro q
    have := pb_all_iff.mp q n (by omega)
    rw [tc_n] at this
    cases this
  obtain ⟨f, h1, h2, h3⟩ := pb_all_no h
  exact ⟨f, by omega, h2, h3⟩
/-! masks of ends -/
theorem mk_up : ∀ c : Nat, c < 12 → fx_and 4095 (fx_shl (-2) (c : Int)) = ((pb_s (fun i => decide (c < i)) 12 : Nat) : Int) := by decide +kernel
theorem mk_lo : ∀ c : Nat, c < 12 → fx_shl ((pb_s (fun i => decide (c < i)) 12 : Nat) : Int) 12 = ((pb_s (fun i => decide (12 + c < i)) 24 : Nat) : Int) := by decide +kernel
theorem mk_all : (16773120 : Int) = ((pb_s (fun i => decide (12 ≤ i)) 24 : Nat) : Int) := by decide +kernel
theorem pb_d_0 {a u : Nat} : pb_d a u ≠ 0 ↔ ∃ i, a.testBit i = true ∧ u.testBit i = false := by
  constructor
  · intro h
    apply Classical.byContradiction
    intro hno
    refine h (Nat.eq_of_testBit_eq fun i => ?_)
    rw [pb_d_bit, Nat.zero_testBit]
    cases ha : a.testBit i
    · rfl
    · cases hu : u.testBit i
      · exact absurd ⟨i, ha, hu⟩ hno
      · rfl
  · rintro ⟨i, h1, h2⟩ h
    have := pb_d_bit a u i
    rw [h, h1, h2, Nat.zero_testBit] at this
    cases this
theorem d_up {u c : Nat} : pb_d (pb_s (fun i => decide (c < i)) 12) u ≠ 0 ↔ anyU u (c + 1) 12 = true := by
  rw [pb_d_0, anyU_iff]
  constructor
  · rintro ⟨i, h1, h2⟩
    rw [pb_s_bit, Bool.and_eq_true, decide_eq_true_eq, decide_eq_true_eq] at h1
    exact ⟨i, by omega, by omega, h2⟩
  · rintro ⟨e, h1, h2, h3⟩
    exact ⟨e, by rw [pb_s_bit, Bool.and_eq_true, decide_eq_true_eq, decide_eq_true_eq]; omega, h3⟩
theorem d_lo {u c : Nat} : pb_d (pb_s (fun i => decide (12 + c < i)) 24) u ≠ 0 ↔ anyU u (12 + c + 1) 24 = true := by
  rw [pb_d_0, anyU_iff]
  constructor
  · rintro ⟨i, h1, h2⟩
    rw [pb_s_bit, Bool.and_eq_true, decide_eq_true_eq, decide_eq_true_eq] at h1
    exact ⟨i, by omega, by omega, h2⟩
  · rintro ⟨e, h1, h2, h3⟩
    exact ⟨e, by rw [pb_s_bit, Bool.and_eq_true, decide_eq_true_eq, decide_eq_true_eq]; omega, h3⟩
theorem d_all {u : Nat} : pb_d (pb_s (fun i => decide (12 ≤ i)) 24) u ≠ 0 ↔ anyU u 12 24 = true := by
  rw [pb_d_0, anyU_iff]
  constructor
  · rintro ⟨i, h1, h2⟩
    rw [pb_s_bit, Bool.and_eq_true, decide_eq_true_eq, decide_eq_true_eq] at h1
    exact ⟨i, by omega, by omega, h2⟩
  · rintro ⟨e, h1, h2, h3⟩
    exact ⟨e, by rw [pb_s_bit, Bool.and_eq_true, decide_eq_true_eq, decide_eq_true_eq]; omega, h3⟩
section PAD
variable {X : fx_Sc} {M M' : fx_M}
/-- the pad of the class holds a text -/
def pT (M : fx_M) (n : Nat) : Prop := n ≤ 60 ∧ M 17 1 = (n : Int) ∧ ∀ k, k < n → 33 ≤ M 18 k ∧ M 18 k ≤ 126
theorem tc_b {T : Nat → Int} {n : Nat} (h : ∀ k, k < n → 33 ≤ T k ∧ T k ≤ 126) (i : Nat) : 32 ≤ tc T n i ∧ tc T n i ≤ 126 := by
  unfold tc
  split
  next hi => have := h i hi; omega
  next => omega
theorem ev_charAt {n i : Nat} (h : pT M n) (hi : i < 100) : Ev X 61 0 [fx_f 17, .inl (i : Int)] [] M (some (.inl (tc (M 18) n i))) M := by
  obtain ⟨h1, h2, h3⟩ := h
  have ei : (i : Int).toNat = i := by omega
  unfold tc
  by_cases hl : i < n
  · have := h3 i hl
    rw [if_pos hl]
    exact r61_0F (by omega) (by omega) (r61_2F (by rw [h2]; omega) (by rw [h2]; omega) (Ev.res (by rw [ei]) (r61_6 (by rw [ei]; omega))))
  · rw [if_neg hl]
    exact r61_0F (by omega) (by omega) (r61_2T (by rw [h2]; omega) (by rw [h2]; omega) r61_11)
theorem ev_columnAt {n i : Nat} (h : pT M n) (hi : i < 100) : Ev X 60 0 [fx_f 17, .inl (i : Int), fx_u] [] M (some (.inl (tl (M 18) n i))) M := by
  have b := tc_b h.2.2 i
  refine r60_0 (ev_charAt h hi) ?_
  unfold tl
  by_cases h1 : 97 ≤ tc (M 18) n i
  · by_cases h2 : tc (M 18) n i ≤ 108
    · rw [if_pos ⟨h1, h2⟩]
      exact r60_3F (by omega) (by omega) (r60_8F (by omega) (by omega) r60_11)
    · rw [if_neg (by omega)]
      exact r60_3F (by omega) (by omega) (r60_8T (by omega) (by omega) r60_13)
  · rw [if_neg (by omega)]
    exact r60_3T (by omega) (by omega) r60_13
theorem ev_endFrom {c s : Int} (hs : pR s) : Ev X 64 0 [.inl c, .inl s] [] M (some (.inl (if s = 95 then 12 + c else c))) M := by
  by_cases h : s = 95
  · rw [if_pos h]; exact r64_0F hs h r64_3
  · rw [if_neg h]; exact r64_0T hs h r64_7
def tto (c : Nat) (s : Int) : Nat := if s = 124 then pb_s (fun i => decide (12 ≤ i)) 24 else if s = 94 then pb_s (fun i => decide (c < i)) 12 else if s = 95 then pb_s (fun i => decide (12 + c < i)) 24 else 0
theorem ev_endsTo {c : Nat} {s : Int} (hc : c < 12) (hs : pR s) : Ev X 65 0 [.inl (c : Int), .inl s, fx_u] [] M (some (.inl (tto c s : Int))) M := by
  unfold tto
  by_cases h1 : s = 124
  · rw [if_pos h1, ← mk_all]; exact r65_0F hs h1 r65_9
  · rw [if_neg h1]
    refine r65_0T hs h1 ?_
    rw [mk_up c hc]
    by_cases h2 : s = 94
    · rw [if_pos h2]; exact r65_11F hs h2 r65_14
    · rw [if_neg h2]
      refine r65_11T hs h2 ?_
      by_cases h3 : s = 95
      · rw [if_pos h3, ← mk_lo c hc]; exact r65_16F hs h3 r65_19
      · rw [if_neg h3]; exact r65_16T hs h3 r65_23
theorem tto_b {c : Nat} {s : Int} : tto c s < 2 ^ 24 := by
  unfold tto
  split
  · exact pb_s_lt _ 24
  · split
    · exact Nat.lt_of_lt_of_le (pb_s_lt _ 12) (by decide)
    · split
      · exact pb_s_lt _ 24
      · exact Nat.two_pow_pos 24
theorem pb_s_0 {e : Nat} : 2 ^ e ≠ 0 := by have := Nat.two_pow_pos e; omega
theorem ev_canGoOn {u c : Nat} {s : Int} (hu : u < 2 ^ 24) (hc : c < 12) (hs : pR s) : Ev X 63 0 [.inl (c : Int), .inl s, .inl (u : Int)] [] M (some (.inl (if tgo u c s = true then 1 else 0))) M := by
  refine r63_0F (by omega) (by omega) (r63_3 (ev_endFrom hs) ?_)
  have e2 : (2 : Nat) ^ 24 = 16777216 := by decide
  obtain ⟨e, he, hee⟩ : ∃ e : Nat, e < 24 ∧ (if s = 95 then 12 + (c : Int) else (c : Int)) = (e : Int) := by
    by_cases h : s = 95
    · exact ⟨12 + c, by omega, by rw [if_pos h]; push_cast; rfl⟩
    · exact ⟨c, by omega, by rw [if_neg h]⟩
  rw [hee]
  have hm := pb_mask (a := u) (c := e) (by omega) (by omega)
  have tb := tto_b (c := c) (s := s)
  have hd := pb_andn (a := tto c s) (b := u) (by omega) (by omega)
  have db := pb_d_le (n := 24) (b := u) tb
  have pe : (2 : Nat) ^ e < 2 ^ 24 := Nat.pow_lt_pow_right (by omega) he
  have pp := Nat.two_pow_pos e
  generalize (2 : Nat) ^ e = w at hm pe pp
  have fin : tgo u c s = (un u e && decide (pb_d (tto c s) u ≠ 0)) := by
    unfold tgo tcd tca tcb
    by_cases h1 : s = 124
    · have ee : e = c := by rw [if_neg (by omega)] at hee; omega
      have : decide (pb_d (tto c s) u ≠ 0) = anyU u 12 24 := by
        unfold tto
        rw [if_pos h1, Bool.eq_iff_iff, decide_eq_true_eq, d_all]
      rw [this, ee, h1]
      simp
    · by_cases h2 : s = 94
      · have ee : e = c := by rw [if_neg (by omega)] at hee; omega
        have : decide (pb_d (tto c s) u ≠ 0) = anyU u (c + 1) 12 := by
          unfold tto
          rw [if_neg h1, if_pos h2, Bool.eq_iff_iff, decide_eq_true_eq, d_up]
        rw [this, ee, h2]
        simp
      · by_cases h3 : s = 95
        · have ee : e = 12 + c := by rw [if_pos h3] at hee; omega
          have : decide (pb_d (tto c s) u ≠ 0) = anyU u (12 + c + 1) 24 := by
            unfold tto
            rw [if_neg h1, if_neg h2, if_pos h3, Bool.eq_iff_iff, decide_eq_true_eq, d_lo]
          rw [this, ee, h3]
          simp
        · have : pb_d (tto c s) u = 0 := by
            unfold tto
            rw [if_neg h1, if_neg h2, if_neg h3]
            unfold pb_d
            simp
          rw [this]
          simp [h1, h2, h3]
  rw [fin]
  by_cases ht : u.testBit e = true
  · rw [if_pos ht] at hm
    rw [if_neg (by unfold un; rw [ht]; simp)]
    exact r63_8F (by rw [hm]; omega) (by rw [hm]; omega) r63_11
  · rw [if_neg ht] at hm
    refine r63_8T (by rw [hm]; omega) hm (r63_13 (ev_endsTo hc hs) ?_)
    by_cases h0 : pb_d (tto c s) u = 0
    · rw [if_neg (by rw [h0]; simp)]
      exact r63_16T (by rw [hd]; omega) (by rw [hd, h0]; rfl) r63_23
    · rw [if_pos (by unfold un; rw [Bool.eq_false_iff.mpr ht]; simp [h0])]
      exact r63_16F (by rw [hd]; omega) (by rw [hd]; omega) r63_21
end PAD

/-! whole numbers: the small machine's bit operations on natural numbers -/
theorem pb_bv (a : Nat) : (Int32.ofInt (a : Int)).toBitVec = BitVec.ofNat 32 a := by
  rw [Int32.ofInt_eq_ofNat]
  rfl
theorem pb_toInt {v : BitVec 32} (h : v.toNat < 2147483648) : v.toInt = (v.toNat : Int) := BitVec.toInt_eq_toNat_of_lt (by omega)
theorem pb_ofNat {a : Nat} (h : a < 2147483648) : (BitVec.ofNat 32 a).toInt = (a : Int) := by
  have e : (BitVec.ofNat 32 a).toNat = a := by rw [BitVec.toNat_ofNat]; omega
  rw [pb_toInt (by omega), e]
theorem pb_and {a b : Nat} (ha : a < 2147483648) : fx_and a b = ((a &&& b : Nat) : Int) := by
  show ((Int32.ofInt a).toBitVec &&& (Int32.ofInt b).toBitVec).toInt = _
  rw [pb_bv, pb_bv, ← BitVec.ofNat_and, pb_ofNat (Nat.lt_of_le_of_lt Nat.and_le_left ha)]
theorem pb_or {a b : Nat} (ha : a < 2147483648) (hb : b < 2147483648) : fx_or a b = ((a ||| b : Nat) : Int) := by
  show ((Int32.ofInt a).toBitVec ||| (Int32.ofInt b).toBitVec).toInt = _
  rw [pb_bv, pb_bv, ← BitVec.ofNat_or, pb_ofNat (Nat.or_lt_two_pow (n := 31) ha hb)]
theorem pb_xor {a b : Nat} (ha : a < 2147483648) (hb : b < 2147483648) : fx_xor a b = ((a ^^^ b : Nat) : Int) := by
  show ((Int32.ofInt a).toBitVec ^^^ (Int32.ofInt b).toBitVec).toInt = _
  rw [pb_bv, pb_bv, ← BitVec.ofNat_xor, pb_ofNat (Nat.xor_lt_two_pow (n := 31) ha hb)]
/-- the bits of a that b has not -/
def pb_d (a b : Nat) : Nat := a ^^^ (a &&& b)
theorem pb_d_bit (a b i : Nat) : (pb_d a b).testBit i = (a.testBit i && !b.testBit i) := by
  unfold pb_d
  rw [Nat.testBit_xor, Nat.testBit_and]
  cases a.testBit i <;> cases b.testBit i <;> rfl
theorem pb_d_le {n a b : Nat} (ha : a < 2 ^ n) : pb_d a b < 2 ^ n := Nat.xor_lt_two_pow ha (Nat.lt_of_le_of_lt Nat.and_le_left ha)
theorem pb_andn {a b : Nat} (ha : a < 2147483648) (hb : b < 2147483648) : fx_and a (fx_xor b (-1)) = ((pb_d a b : Nat) : Int) := by
  have h1 : Int32.ofInt (fx_xor b (-1)) = Int32.ofInt b ^^^ Int32.ofInt (-1) := Int32.ofInt_toInt _
  show (Int32.ofInt a &&& Int32.ofInt (fx_xor b (-1))).toInt = _
  rw [h1]
  show ((Int32.ofInt a).toBitVec &&& ((Int32.ofInt b).toBitVec ^^^ (Int32.ofInt (-1)).toBitVec)).toInt = _
  rw [pb_bv, pb_bv]
  have h2 : (Int32.ofInt (-1)).toBitVec = BitVec.allOnes 32 := by decide
  rw [h2]
  have h3 : BitVec.ofNat 32 a &&& (BitVec.ofNat 32 b ^^^ BitVec.allOnes 32) = BitVec.ofNat 32 (pb_d a b) := by
    apply BitVec.eq_of_getLsbD_eq
    intro i hi
    simp only [BitVec.getLsbD_and, BitVec.getLsbD_xor, BitVec.getLsbD_ofNat, BitVec.getLsbD_allOnes, pb_d_bit, hi, decide_true, Bool.true_and]
    cases a.testBit i <;> cases b.testBit i <;> rfl
  rw [h3, pb_ofNat (pb_d_le (n := 31) ha)]
theorem pb_shl1 : ∀ c : Nat, c < 31 → fx_shl 1 (c : Int) = ((2 ^ c : Nat) : Int) := by decide +kernel
theorem pb_k31 : ∀ c : Nat, c < 31 → ((Int32.ofInt (c : Int) &&& 31).toBitVec.smod 32).toNat = c := by decide +kernel
theorem pb_shr {a c : Nat} (ha : a < 2147483648) (hc : c < 31) : fx_shr a c = ((a / 2 ^ c : Nat) : Int) := by
  unfold fx_shr
  rw [Int32.ofInt_eq_ofNat (n := a)]
  have h := pk_shrN (n := a) ha (Int32.ofInt (c : Int) &&& 31) c (pb_k31 c hc)
  show (nI a >>> (Int32.ofInt (c : Int) &&& 31)).toInt = _
  rw [h, nI_toInt]
  have := Nat.div_le_self a (2 ^ c)
  omega
theorem pb_rem {a d : Nat} (ha : a < 2147483648) (h0 : 0 < d) (hd : d < 2147483648) : fx_rem a d = ((a % d : Nat) : Int) := by
  unfold fx_rem
  rw [Int32.ofInt_eq_ofNat (n := a), Int32.ofInt_eq_ofNat (n := d)]
  show (nI a - nI a / nI d * nI d).toInt = _
  rw [pk_rem ha h0 hd, nI_toInt]
  have := Nat.mod_le a d
  omega
theorem pb_div {a d : Nat} (ha : a < 2147483648) (h0 : 0 < d) (hd : d < 2147483648) : fx_div a d = ((a / d : Nat) : Int) := by
  unfold fx_div
  rw [Int32.ofInt_eq_ofNat (n := a), Int32.ofInt_eq_ofNat (n := d)]
  show (nI a / nI d).toInt = _
  rw [pk_div ha h0 hd, nI_toInt]
  have := Nat.div_le_self a d
  omega
theorem pb_bit {a c : Nat} (ha : a < 2147483648) (hc : c < 31) : fx_and (fx_shr a c) 1 = if a.testBit c then 1 else 0 := by
  rw [pb_shr ha hc]
  have h := pb_and (a := a / 2 ^ c) (b := 1) (by have := Nat.div_le_self a (2 ^ c); omega)
  rw [show ((1 : Nat) : Int) = 1 from rfl] at h
  rw [h]
  have h2 : a / 2 ^ c &&& 1 = (a >>> c) &&& 1 := by rw [Nat.shiftRight_eq_div_pow]
  rw [h2]
  unfold Nat.testBit
  rw [Nat.and_comm (a >>> c) 1]
  have h3 : 1 &&& (a >>> c) = 0 ∨ 1 &&& (a >>> c) = 1 := by
    have := Nat.and_le_left (n := 1) (m := a >>> c)
    omega
  rcases h3 with h3 | h3 <;> simp [h3]
theorem pb_mask {a c : Nat} (ha : a < 2147483648) (hc : c < 31) : fx_and a (fx_shl 1 (c : Int)) = if a.testBit c then ((2 ^ c : Nat) : Int) else 0 := by
  rw [pb_shl1 c hc, pb_and ha]
  have h : a &&& 2 ^ c = if a.testBit c then 2 ^ c else 0 := by
    refine Nat.eq_of_testBit_eq fun i => ?_
    rw [Nat.testBit_and]
    by_cases hi : i = c
    · subst hi
      cases a.testBit i <;> simp [Nat.testBit_two_pow_self]
    · rw [Nat.testBit_two_pow_of_ne (fun q => hi q.symm)]
      cases a.testBit c <;> simp [Nat.testBit_two_pow_of_ne (fun q => hi q.symm)]
  rw [h]
  cases a.testBit c <;> simp
/-! sets as numbers: the places below n at which P holds -/
def pb_s (P : Nat → Bool) : Nat → Nat
  | 0 => 0
  | n + 1 => pb_s P n ||| (if P n then 2 ^ n else 0)
theorem pb_s_bit (P : Nat → Bool) (n i : Nat) : (pb_s P n).testBit i = (decide (i < n) && P i) := by
  induction n with
  | zero => simp [pb_s]
  | succ n ih =>
    rw [pb_s, Nat.testBit_or, ih]
    by_cases hi : i = n
    · subst hi
      cases h : P i <;> simp [h, Nat.testBit_two_pow_self]
    · have h2 : (2 ^ n).testBit i = false := Nat.testBit_two_pow_of_ne (fun q => hi q.symm)
      by_cases hl : i < n
      · have : i < n + 1 := by omega
        cases P n <;> simp [hl, this, h2]
      · have : ¬ i < n + 1 := by omega
        cases P n <;> simp [hl, this, h2]
theorem pb_s_lt (P : Nat → Bool) (n : Nat) : pb_s P n < 2 ^ n := by
  induction n with
  | zero => simp [pb_s]
  | succ n ih =>
    rw [pb_s]
    have h1 : pb_s P n < 2 ^ (n + 1) := by rw [Nat.pow_succ]; omega
    refine Nat.or_lt_two_pow h1 ?_
    cases P n
    · simp only [Bool.false_eq_true, if_false]
      exact Nat.two_pow_pos _
    · simp only [if_true]
      rw [Nat.pow_succ]
      have := Nat.two_pow_pos n
      omega
theorem pb_s_ext {P Q : Nat → Bool} {n : Nat} (h : ∀ i, i < n → P i = Q i) : pb_s P n = pb_s Q n := by
  induction n with
  | zero => rfl
  | succ n ih => rw [pb_s, pb_s, ih (fun i hi => h i (by omega)), h n (by omega)]
theorem pb_s_of {P : Nat → Bool} {n a : Nat} (ha : a < 2 ^ n) (h : ∀ i, i < n → a.testBit i = P i) : a = pb_s P n := by
  refine Nat.eq_of_testBit_eq fun i => ?_
  rw [pb_s_bit]
  by_cases hi : i < n
  · simp [hi, h i hi]
  · simp [hi]
    exact Nat.testBit_lt_two_pow (Nat.lt_of_lt_of_le ha (Nat.pow_le_pow_right (by omega) (by omega)))
theorem pb_s_and (P Q : Nat → Bool) (n : Nat) : pb_s P n &&& pb_s Q n = pb_s (fun i => P i && Q i) n := by
  refine pb_s_of (Nat.lt_of_le_of_lt Nat.and_le_left (pb_s_lt P n)) fun i hi => ?_
  rw [Nat.testBit_and, pb_s_bit, pb_s_bit]
  simp [hi]
theorem pb_s_d (P Q : Nat → Bool) (n : Nat) : pb_d (pb_s P n) (pb_s Q n) = pb_s (fun i => P i && !Q i) n := by
  refine pb_s_of (pb_d_le (pb_s_lt P n)) fun i hi => ?_
  rw [pb_d_bit, pb_s_bit, pb_s_bit]
  simp [hi]
theorem pb_s_xor (P Q : Nat → Bool) (n : Nat) : pb_s P n ^^^ pb_s Q n = pb_s (fun i => P i != Q i) n := by
  refine pb_s_of (Nat.xor_lt_two_pow (pb_s_lt P n) (pb_s_lt Q n)) fun i hi => ?_
  rw [Nat.testBit_xor, pb_s_bit, pb_s_bit]
  simp [hi]
theorem pb_s_or (P Q : Nat → Bool) (n : Nat) : pb_s P n ||| pb_s Q n = pb_s (fun i => P i || Q i) n := by
  refine pb_s_of (Nat.or_lt_two_pow (pb_s_lt P n) (pb_s_lt Q n)) fun i hi => ?_
  rw [Nat.testBit_or, pb_s_bit, pb_s_bit]
  simp [hi]
/-- how many places below n hold P -/
def pb_c (P : Nat → Bool) : Nat → Nat
  | 0 => 0
  | n + 1 => pb_c P n + (if P n then 1 else 0)
theorem pb_c_ext {P Q : Nat → Bool} {n : Nat} (h : ∀ i, i < n → P i = Q i) : pb_c P n = pb_c Q n := by
  induction n with
  | zero => rfl
  | succ n ih => rw [pb_c, pb_c, ih (fun i hi => h i (by omega)), h n (by omega)]
theorem pb_c_le (P : Nat → Bool) (n : Nat) : pb_c P n ≤ n := by
  induction n with
  | zero => exact Nat.le_refl 0
  | succ n ih => rw [pb_c]; cases P n <;> simp <;> omega
theorem pb_c_add (P : Nat → Bool) (n m : Nat) : pb_c P (n + m) = pb_c P n + pb_c (fun i => P (n + i)) m := by
  induction m with
  | zero => rfl
  | succ m ih => rw [← Nat.add_assoc, pb_c, pb_c, ih]; omega
theorem pb_c_or (P Q : Nat → Bool) (n : Nat) : pb_c P n + pb_c Q n = pb_c (fun i => P i || Q i) n + pb_c (fun i => P i && Q i) n := by
  induction n with
  | zero => rfl
  | succ n ih =>
    simp only [pb_c]
    by_cases hP : P n = true <;> by_cases hQ : Q n = true <;> simp [hP, hQ] <;> omega
theorem pb_c_xor (P Q : Nat → Bool) (n : Nat) : pb_c (fun i => P i != Q i) n = pb_c (fun i => P i && !Q i) n + pb_c (fun i => Q i && !P i) n := by
  induction n with
  | zero => rfl
  | succ n ih =>
    simp only [pb_c]
    by_cases hP : P n = true <;> by_cases hQ : Q n = true <;> simp [hP, hQ] <;> omega
/-- a sum -/
def pb_m (g : Nat → Int) : Nat → Int
  | 0 => 0
  | n + 1 => pb_m g n + g n
theorem pb_m_ext {g h : Nat → Int} {n : Nat} (e : ∀ i, i < n → g i = h i) : pb_m g n = pb_m h n := by
  induction n with
  | zero => rfl
  | succ n ih => rw [pb_m, pb_m, ih (fun i hi => e i (by omega)), e n (by omega)]
theorem pb_m_c (P : Nat → Bool) (n : Nat) : pb_m (fun i => if P i then 1 else 0) n = (pb_c P n : Int) := by
  induction n with
  | zero => rfl
  | succ n ih => rw [pb_m, pb_c, ih]; cases P n <;> simp
theorem pb_m_bd {g : Nat → Int} {n : Nat} {b : Nat} (h : ∀ i, i < n → 0 ≤ g i ∧ g i ≤ (b : Int)) : 0 ≤ pb_m g n ∧ pb_m g n ≤ ((n * b : Nat) : Int) := by
  induction n with
  | zero => simp [pb_m]
  | succ n ih =>
    obtain ⟨h1, h2⟩ := ih (fun i hi => h i (by omega))
    obtain ⟨h3, h4⟩ := h n (by omega)
    rw [pb_m, Nat.succ_mul]
    push_cast at h2 ⊢
    omega

/-! the reference: its small methods -/
def mS (M : fx_M) : Prop := (∀ k, k < 144 → 0 ≤ M 57 k ∧ M 57 k ≤ 24) ∧ (∀ p, p < 6 → 0 ≤ M 57 (144 + p) ∧ M 57 (144 + p) < 6)
def mh (M : fx_M) (k : Nat) : Bool := decide (0 < M 57 k)
def y_era (s : Nat → Int) (p c : Nat) : Nat → Int := fun k => if 24 * p ≤ k ∧ k < 24 * p + c then 0 else s k
def y_lnk (s : Nat → Int) (p e o : Nat) : Nat → Int := fx_up (fx_up s (24 * p + e) ((o : Int) + 1)) (24 * p + o) ((e : Int) + 1)
def y_lay (mu nu : Int → Int) (s : Nat → Int) (p c : Nat) : Nat → Int := fun k => if 24 * p ≤ k ∧ k < 24 * p + 24 then
    (if (0 ≤ nu ((k : Int) - 24 * p) ∧ nu ((k : Int) - 24 * p) < 24 ∧ 0 < s (24 * p + (nu ((k : Int) - 24 * p)).toNat)) ∧ nu ((k : Int) - 24 * p) < c then mu (s (24 * p + (nu ((k : Int) - 24 * p)).toNat) - 1) + 1 else 0) else s k
def y_n (k : Nat) : Int := if pn k = -1 then -6 else pn k
def y_swp (s : Nat → Int) (p q : Nat) : Nat → Int := fx_up (fx_up (z_swp s p q 24) (144 + p) (s (144 + q))) (144 + q) (s (144 + p))
section MDL
variable {X : fx_Sc} {M M' : fx_M} {j i : Nat} {ls ls' st : List fx_V} {r : Option fx_V}
theorem evm_in_y {x lo hi : Int} (h : lo ≤ x ∧ x ≤ hi) (hx : pR x) (hl : pR lo) (hh : pR hi) : Ev X 117 0 [.inl x, .inl lo, .inl hi] [] M (some (.inl 1)) M := r117_0F ⟨hx, hl⟩ h.1 (r117_3F ⟨hx, hh⟩ h.2 r117_6)
theorem evm_in_n {x lo hi : Int} (h : x < lo ∨ hi < x) (hx : pR x) (hl : pR lo) (hh : pR hi) : Ev X 117 0 [.inl x, .inl lo, .inl hi] [] M (some (.inl 0)) M := by
  by_cases h0 : x < lo
  · exact r117_0T ⟨hx, hl⟩ h0 r117_8
  · exact r117_0F ⟨hx, hl⟩ (by omega) (r117_3T ⟨hx, hh⟩ (by omega) r117_8)
theorem evm_isPanel_y {x : Int} (h : 0 ≤ x ∧ x < 6) : Ev X 116 0 [.inl x] [] M (some (.inl 1)) M := r116_0 (evm_in_y (by omega) (by constructor <;> omega) (by decide) (by decide)) (r116_4 (by omega))
theorem evm_isPanel_n {x : Int} (hx : pR x) (h : x < 0 ∨ 6 ≤ x) : Ev X 116 0 [.inl x] [] M (some (.inl 0)) M := r116_0 (evm_in_n (by omega) hx (by decide) (by decide)) (r116_4 (by omega))
theorem evm_isEnd_y {x e : Int} (h : 0 ≤ x ∧ x < 6) (he : 0 ≤ e ∧ e < 24) : Ev X 115 0 [.inl x, .inl e] [] M (some (.inl 1)) M := r115_0 (evm_isPanel_y h) (r115_2F (by omega) (by omega) (r115_3 (evm_in_y (by omega) (by constructor <;> omega) (by decide) (by decide)) (r115_7F (by omega) (by omega) r115_8)))
theorem evm_isEnd_n {x e : Int} (hx : pR x) (hE : pR e) (h : (x < 0 ∨ 6 ≤ x) ∨ (e < 0 ∨ 24 ≤ e)) : Ev X 115 0 [.inl x, .inl e] [] M (some (.inl 0)) M := by
  by_cases h0 : x < 0 ∨ 6 ≤ x
  · exact r115_0 (evm_isPanel_n hx h0) (r115_2T (by omega) rfl r115_10)
  · exact r115_0 (evm_isPanel_y (by omega)) (r115_2F (by omega) (by omega) (r115_3 (evm_in_n (by omega) hE (by decide) (by decide)) (r115_7T (by omega) rfl r115_10)))
theorem evm_has {k : Nat} (S : mS M) (hk : k < 144) : Ev X 118 0 [fx_f 56, .inl (k : Int)] [] M (some (.inl (if mh M k = true then 1 else 0))) M := by
  have hb : 0 ≤ M 57 (k : Int).toNat ∧ M 57 (k : Int).toNat ≤ 24 := S.1 k hk
  by_cases h : 0 < M 57 k
  · rw [if_pos (show mh M k = true from decide_eq_true h)]
    exact r118_0F ⟨by omega, by omega⟩ h r118_5
  · rw [if_neg (show ¬ mh M k = true from fun q => h (of_decide_eq_true q))]
    exact r118_0T ⟨by omega, by omega⟩ (Int.not_lt.mp h) r118_7
theorem evm_neighbour {k : Nat} (hk : k < 144) : Ev X 132 0 [.inl (k : Int), fx_u] [] M (some (.inl (y_n k))) M := by
  have hr : fx_rem (k : Int) 24 = ((k % 24 : Nat) : Int) := pb_rem (d := 24) (by omega) (by omega) (by omega)
  unfold y_n pn
  by_cases h : k % 24 < 12
  · rw [if_pos h]
    refine r132_0F (by rw [hr]; omega) (by rw [hr]; omega) ?_
    by_cases h2 : 12 ≤ k
    · rw [if_pos h2, if_neg (by omega)]
      exact r132_5 (evm_in_y (by omega) (by constructor <;> omega) (by decide) (by decide)) (r132_17F (by omega) (by omega) r132_18)
    · rw [if_neg h2, if_pos rfl]
      exact r132_5 (evm_in_n (by omega) (by constructor <;> omega) (by decide) (by decide)) (r132_17T (by omega) rfl r132_20)
  · rw [if_neg h]
    refine r132_0T (by rw [hr]; omega) (by rw [hr]; omega) ?_
    by_cases h2 : k + 12 < 144
    · rw [if_pos h2, if_neg (by omega)]
      exact r132_9 (evm_in_y (by omega) (by constructor <;> omega) (by decide) (by decide)) (r132_17F (by omega) (by omega) r132_18)
    · rw [if_neg h2, if_pos rfl]
      exact r132_9 (evm_in_n (by omega) (by constructor <;> omega) (by decide) (by decide)) (r132_17T (by omega) rfl r132_20)
theorem evm_how {k : Nat} (S : mS M) (hk : k < 144) : Ev X 131 0 [fx_f 56, .inl (k : Int), fx_u] [] M (some (.inl (z_how (mh M) k))) M := by
  have hn := pn_rg hk
  refine r131_0 (evm_neighbour hk) (r131_2 (evm_has S hk) ?_)
  unfold z_how
  by_cases hp : mh M k = true
  · rw [if_pos hp, if_pos hp]
    refine r131_6T (by omega) (by omega) ?_
    unfold y_n
    by_cases hm : pn k = -1
    · rw [if_pos hm, if_pos hm]
      exact r131_9F (by omega) rfl r131_12
    · rw [if_neg hm, if_neg hm]
      have e1 : pn k = ((pn k).toNat : Int) := by omega
      refine r131_9T (by omega) (by omega) (r131_14 (by rw [e1]; exact evm_has S (by omega)) ?_)
      have e2 : ((pn k).toNat : Int).toNat = (pn k).toNat := by omega
      by_cases hq : mh M (pn k).toNat = true
      · rw [if_pos hq, if_pos hq]
        exact r131_17F (by omega) (by omega) r131_18
      · rw [if_neg hq, if_neg hq]
        exact r131_17T (by omega) rfl r131_20
  · rw [if_neg hp, if_neg hp]
    exact r131_6F (by omega) rfl r131_7
theorem z_how_rg (P : Nat → Bool) (k : Nat) : 0 ≤ z_how P k ∧ z_how P k ≤ 3 := by unfold z_how; split <;> (try split) <;> (try split) <;> omega
theorem evm_ends {f l : Nat} {w : Int} (S : mS M) (hfl : f ≤ l) (hl : l < 6) (hw : pR w) : Ev X 130 0 [fx_f 56, .inl (f : Int), .inl (l : Int), .inl w, fx_u, fx_u] [] M (some (.inl ((pb_c (fun i => decide (z_how (mh M) (24 * f + i) = w)) (24 * (l - f) + 24) : Nat) : Int))) M := by
  refine r130_0 ?_
  have e0 : (24 * (f : Int)) = ((24 * f + 0 : Nat) : Int) := by push_cast; omega
  rw [e0]
  refine Ev.loop (24 * (l - f) + 24) (fun c => [fx_f 56, .inl (f : Int), .inl (l : Int), .inl w, .inl ((pb_c (fun i => decide (z_how (mh M) (24 * f + i) = w)) c : Nat) : Int), .inl ((24 * f + c : Nat) : Int)]) (fun _ => M) (fun c hc k => ?_) (r130_6T ⟨by omega, by omega⟩ (by omega) r130_26)
  refine r130_6F ⟨by omega, by omega⟩ (by omega) (r130_13 (evm_how S (by omega)) ?_)
  have hb := z_how_rg (mh M) (24 * f + c)
  simp only [pb_c] at k
  by_cases h : z_how (mh M) (24 * f + c) = w
  · simp only [h, decide_true, if_true] at k
    exact r130_17F ⟨by omega, hw⟩ h (r130_19 k)
  · simp only [h, decide_false, Bool.false_eq_true, if_false, Nat.add_zero] at k
    exact r130_17T ⟨by omega, hw⟩ h (r130_21 (by simp only [Int.add_zero]; exact k))
theorem evm_loose (S : mS M) : Ev X 129 0 [fx_f 56] [] M (some (.inl ((pb_c (fun i => decide (z_how (mh M) i = 2)) 144 : Nat) : Int))) M := by
  refine r129_0 (evm_ends (f := 0) (l := 5) S (by omega) (by omega) (by decide)) (Ev.res ?_ r129_5)
  simp only [Nat.mul_zero, Nat.zero_add]
theorem evm_strokesOf {p : Nat} (S : mS M) (hp : p < 6) : Ev X 121 0 [fx_f 56, .inl (p : Int), fx_u, fx_u] [] M (some (.inl (z_str (mh M) p : Int))) M := by
  refine r121_0 ?_
  have hle := pb_c_le (fun e => mh M (24 * p + e)) 24
  refine Ev.loop 24 (fun c => [fx_f 56, .inl (p : Int), .inl ((pb_c (fun e => mh M (24 * p + e)) c : Nat) : Int), .inl (c : Int)]) (fun _ => M) (fun c hc k => ?_) (r121_4T (by omega) (by omega) (Ev.res (pb_div (d := 2) (by omega) (by omega) (by omega)) r121_23))
  have e1 : 24 * (p : Int) + (c : Int) = ((24 * p + c : Nat) : Int) := by push_cast; omega
  refine r121_4F (by omega) (by omega) (r121_7 (by rw [e1]; exact evm_has S (by omega)) ?_)
  simp only [pb_c] at k
  by_cases h : mh M (24 * p + c) = true
  · rw [if_pos h]
    rw [if_pos h] at k
    exact r121_15F (by omega) (by omega) (r121_16 k)
  · rw [if_neg h]
    rw [if_neg h] at k
    exact r121_15T (by omega) rfl (r121_18 (by simp only [Int.add_zero]; exact k))
theorem evm_joins {p e o : Nat} (hp : p < 6) (he : e < 24) (ho : o < 24) : Ev X 120 0 [fx_f 56, .inl (p : Int), .inl (e : Int), .inl (o : Int)] [] M none (fx_set M 57 (y_lnk (M 57) p e o)) := by
  refine Ev.mem ?_ (r120_0 ⟨by omega, by omega⟩)
  have e1 : (24 * (p : Int) + (e : Int)).toNat = 24 * p + e := by omega
  have e2 : (24 * (p : Int) + (o : Int)).toNat = 24 * p + o := by omega
  rw [fx_ss, fx_sk, e1, e2]
  rfl
theorem evm_rubsAll {p : Nat} (hp : p < 6) : Ev X 124 0 [fx_f 56, .inl (p : Int), fx_u] [] M none (fx_set M 57 (y_era (M 57) p 24)) := by
  refine r124_0 ?_
  have e0 : M = fx_set M 57 (y_era (M 57) p 0) := by
    have : y_era (M 57) p 0 = M 57 := by funext k; unfold y_era; rw [if_neg (by omega)]
    rw [this, fx_self]
  refine Ev.memL e0 ?_
  refine Ev.loop 24 (fun c => [fx_f 56, .inl (p : Int), .inl (c : Int)]) (fun c => fx_set M 57 (y_era (M 57) p c)) (fun c hc k => ?_) (r124_2T (by omega) (by omega) r124_16)
  refine r124_2F (by omega) (by omega) (r124_5 (by omega) (Ev.memL ?_ k))
  have e1 : (24 * (p : Int) + (c : Int)).toNat = 24 * p + c := by omega
  rw [fx_ss, fx_sk, e1]
  congr 1
  funext q
  unfold fx_up y_era
  by_cases h1 : q = 24 * p + c
  · rw [if_pos h1, if_pos (by omega)]
  · rw [if_neg h1]
    by_cases h2 : 24 * p ≤ q ∧ q < 24 * p + c
    · rw [if_pos h2, if_pos (by omega)]
    · rw [if_neg h2, if_neg (by omega)]
theorem z_can_24 (P : Nat → Bool) (p : Nat) (x : Int) : z_can P p x = pb_all (fun e => !P (24 * p + e) || (decide (0 ≤ ((e % 12 : Nat) : Int) + x) && decide (((e % 12 : Nat) : Int) + x ≤ 11))) 24 := by
  rw [Bool.eq_iff_iff]
  unfold z_can
  rw [pb_all_iff, pb_all_iff]
  constructor
  · intro h e he
    cases hP : P (24 * p + e) with
    | false => rfl
    | true =>
      have := z_can_end (P := P) (p := p) (e := e) (x := x) (pb_all_iff.mpr h) he hP
      simp only [Bool.not_true, Bool.false_or, Bool.and_eq_true, decide_eq_true_eq]
      omega
  · intro h c hc
    cases h1 : P (24 * p + c) with
    | true =>
      have := h c (by omega)
      simp only [h1, Bool.not_true, Bool.false_or, Bool.and_eq_true, decide_eq_true_eq] at this
      simp only [Bool.true_or, Bool.not_true, Bool.false_or, Bool.and_eq_true, decide_eq_true_eq]
      omega
    | false =>
      cases h2 : P (24 * p + 12 + c) with
      | true =>
        have := h (12 + c) (by omega)
        rw [show 24 * p + (12 + c) = 24 * p + 12 + c by omega] at this
        simp only [h2, Bool.not_true, Bool.false_or, Bool.and_eq_true, decide_eq_true_eq] at this
        simp only [Bool.or_true, Bool.not_true, Bool.false_or, Bool.and_eq_true, decide_eq_true_eq]
        omega
      | false => rfl
theorem evm_canSlide {p : Nat} {x : Int} (S : mS M) (hp : p < 6) (hx : -12 < x ∧ x < 12) : Ev X 126 0 [fx_f 56, .inl (p : Int), .inl x, fx_u, fx_u] [] M (some (.inl (if z_can (mh M) p x = true then 1 else 0))) M := by
  rw [z_can_24]
  refine r126_0 ?_
  refine Ev.loop 24 (fun c => [fx_f 56, .inl (p : Int), .inl x, .inl (if pb_all (fun e => !mh M (24 * p + e) || (decide (0 ≤ ((e % 12 : Nat) : Int) + x) && decide (((e % 12 : Nat) : Int) + x ≤ 11))) c = true then 1 else 0), .inl (c : Int)]) (fun _ => M) (fun c hc k => ?_) (r126_4T (by omega) (by omega) (r126_32 (by split <;> omega)))
  have e1 : 24 * (p : Int) + (c : Int) = ((24 * p + c : Nat) : Int) := by push_cast; omega
  have hr : fx_rem (c : Int) 12 = ((c % 12 : Nat) : Int) := pb_rem (d := 12) (by omega) (by omega) (by omega)
  refine r126_4F (by omega) (by omega) ?_
  by_cases ha : pb_all (fun e => !mh M (24 * p + e) || (decide (0 ≤ ((e % 12 : Nat) : Int) + x) && decide (((e % 12 : Nat) : Int) + x ≤ 11))) c = true
  · rw [if_pos ha]
    refine r126_7F (by omega) (by omega) (r126_9 (by rw [e1]; exact evm_has S (by omega)) ?_)
    simp only [pb_all, ha, Bool.true_and] at k
    by_cases h : mh M (24 * p + c) = true
    · rw [if_pos h]
      simp only [h, Bool.not_true, Bool.false_or] at k
      by_cases hin : 0 ≤ ((c % 12 : Nat) : Int) + x ∧ ((c % 12 : Nat) : Int) + x ≤ 11
      · simp only [hin.1, hin.2, decide_true, Bool.and_self, if_true] at k
        exact r126_16F (by omega) (by omega) (r126_17 (by rw [hr]; exact evm_in_y hin (by constructor <;> omega) (by decide) (by decide)) (r126_25F (by omega) (by omega) (r126_26 k)))
      · have hk : (decide (0 ≤ ((c % 12 : Nat) : Int) + x) && decide (((c % 12 : Nat) : Int) + x ≤ 11)) = false := by
          rw [Bool.and_eq_false_iff, decide_eq_false_iff_not, decide_eq_false_iff_not]
          omega
        simp only [hk, Bool.false_eq_true, if_false] at k
        exact r126_16F (by omega) (by omega) (r126_17 (by rw [hr]; exact evm_in_n (by omega) (by constructor <;> omega) (by decide) (by decide)) (r126_25T (by omega) rfl (r126_28 k)))
    · rw [if_neg h]
      have h' : mh M (24 * p + c) = false := by simpa using h
      simp only [h', Bool.not_false, Bool.true_or, if_true] at k
      exact r126_16T (by omega) rfl (r126_26 k)
  · rw [if_neg ha]
    have ha' : pb_all (fun e => !mh M (24 * p + e) || (decide (0 ≤ ((e % 12 : Nat) : Int) + x) && decide (((e % 12 : Nat) : Int) + x ≤ 11))) c = false := by simpa using ha
    simp only [pb_all, ha', Bool.false_and, Bool.false_eq_true, if_false] at k
    exact r126_7T (by omega) rfl (r126_28 k)
theorem evm_movedS {e : Nat} {x : Int} (he : e < 24) : Ev X 128 0 [.inl (e : Int), .inl x, .inl 0, .inl 0, fx_u, fx_u] [] M (some (.inl ((e : Int) + x))) M := by
  have hd : fx_div (e : Int) 12 = ((e / 12 : Nat) : Int) := pb_div (d := 12) (by omega) (by omega) (by omega)
  have hr : fx_rem (e : Int) 12 = ((e % 12 : Nat) : Int) := pb_rem (d := 12) (by omega) (by omega) (by omega)
  by_cases h : e < 12
  · exact r128_0T (by rw [hd]; omega) (by rw [hd]; omega) (r128_13F (by omega) rfl (r128_16T (by omega) rfl (Ev.res (by rw [hr]; omega) r128_27)))
  · exact r128_0F (by rw [hd]; omega) (by rw [hd]; omega) (r128_11T (by omega) (by omega) (r128_18T (by omega) rfl (Ev.res (by rw [hr]; omega) r128_27)))
theorem evm_movedT {e : Nat} {h : Int} (he : e < 24) (hh : 0 ≤ h ∧ h < 3) : Ev X 128 0 [.inl (e : Int), .inl 0, .inl (if h ≠ 1 then 1 else 0), .inl (if h ≠ 0 then 1 else 0), fx_u, fx_u] [] M (some (.inl (z_tn h e))) M := by
  have hd : fx_div (e : Int) 12 = ((e / 12 : Nat) : Int) := pb_div (d := 12) (by omega) (by omega) (by omega)
  have hr : fx_rem (e : Int) 12 = ((e % 12 : Nat) : Int) := pb_rem (d := 12) (by omega) (by omega) (by omega)
  unfold z_tn
  by_cases h1 : h = 1
  · subst h1
    simp only [ne_eq, not_true, if_false, if_true, show ¬ (1 : Int) = 0 by omega, not_false_iff]
    by_cases hu : e < 12
    · rw [if_pos (by omega)]
      exact r128_0T (by rw [hd]; omega) (by rw [hd]; omega) (r128_13T (by omega) (by omega) (r128_18T (by omega) rfl (Ev.res (by rw [hr]; omega) r128_27)))
    · rw [if_neg (by omega)]
      exact r128_0F (by rw [hd]; omega) (by rw [hd]; omega) (r128_11F (by omega) (by omega) (r128_16T (by omega) rfl (Ev.res (by rw [hr]; omega) r128_27)))
  · by_cases h0 : h = 0
    · subst h0
      simp only [ne_eq, not_true, if_false, if_true, show ¬ (0 : Int) = 1 by omega, not_false_iff]
      by_cases hu : e < 12
      · rw [if_pos (by omega)]
        exact r128_0T (by rw [hd]; omega) (by rw [hd]; omega) (r128_13F (by omega) rfl (r128_16F (by omega) (by omega) (Ev.res (by rw [hr]; omega) r128_23)))
      · rw [if_neg (by omega)]
        exact r128_0F (by rw [hd]; omega) (by rw [hd]; omega) (r128_11T (by omega) (by omega) (r128_18F (by omega) (by omega) (Ev.res (by rw [hr]; omega) r128_23)))
    · simp only [ne_eq, h1, h0, if_false, if_true, not_false_iff]
      by_cases hu : e < 12
      · exact r128_0T (by rw [hd]; omega) (by rw [hd]; omega) (r128_13T (by omega) (by omega) (r128_18F (by omega) (by omega) (Ev.res (by rw [hr]; omega) r128_23)))
      · exact r128_0F (by rw [hd]; omega) (by rw [hd]; omega) (r128_11F (by omega) rfl (r128_16F (by omega) (by omega) (Ev.res (by rw [hr]; omega) r128_23)))
end MDL

/-! the law: each call gives one answer of both; the script comes to its end -/
section LAW
variable {X : fx_Sc} {M M' : fx_M}
def lS (X : fx_Sc) (M : fx_M) (i : Nat) : Prop := ∃ M2, cI M2 ∧ ∀ (r : Option fx_V) (M' : fx_M), Ev X 191 2 [fx_f 71, fx_f 0, fx_f 56, .inl ((i + 4 : Nat) : Int)] [] M2 r M' → Ev X 191 8 [fx_f 71, fx_f 0, fx_f 56, .inl (i : Int)] [] M r M'
theorem law_0 {i : Nat} (hI : cI M) (hX : X.1 < 2147483648) (hx : ∀ k : Nat, pR (X.2 k)) (hi : i + 4 ≤ X.1) (h : fx_and (X.2 (i : Int).toNat) 31 = 0) : lS X M i := by
  obtain ⟨z, M1, M2, h1, h2, hc, hz⟩ := op_draw (X := X) (x1 := X.2 ((i : Int) + 1).toNat) (x2 := X.2 ((i : Int) + 2).toNat) hI (hx _) (hx _)
  exact ⟨M2, hc, fun r M' kk => r191_8c0 hX (by omega) h (r191_14 hX (by omega) h1 (r191_26 hX (by omega) h2 (r191_38T ⟨hz, hz⟩ rfl (r191_559 kk))))⟩
theorem law_1 {i : Nat} (hI : cI M) (hX : X.1 < 2147483648) (hx : ∀ k : Nat, pR (X.2 k)) (hi : i + 4 ≤ X.1) (h : fx_and (X.2 (i : Int).toNat) 31 = 1) : lS X M i := by
  obtain ⟨z, M1, M2, h1, h2, hc, hz⟩ := op_join (X := X) (x1 := X.2 ((i : Int) + 1).toNat) (x2 := X.2 ((i : Int) + 2).toNat) (x3 := X.2 ((i : Int) + 3).toNat) hI (hx _) (hx _) (hx _)
  exact ⟨M2, hc, fun r M' kk => r191_8c1 hX (by omega) h (r191_41 hX (by omega) h1 (r191_58 hX (by omega) h2 (r191_75T ⟨hz, hz⟩ rfl (r191_559 kk))))⟩
theorem law_2 {i : Nat} (hI : cI M) (hX : X.1 < 2147483648) (hx : ∀ k : Nat, pR (X.2 k)) (hi : i + 4 ≤ X.1) (h : fx_and (X.2 (i : Int).toNat) 31 = 2) : lS X M i := by
  obtain ⟨z, M1, M2, h1, h2, hc, hz⟩ := op_rub (X := X) (x1 := X.2 ((i : Int) + 1).toNat) (x2 := X.2 ((i : Int) + 2).toNat) hI (hx _) (hx _)
  exact ⟨M2, hc, fun r M' kk => r191_8c2 hX (by omega) h (r191_78 hX (by omega) h1 (r191_90 hX (by omega) h2 (r191_102T ⟨hz, hz⟩ rfl (r191_559 kk))))⟩
theorem law_3 {i : Nat} (hI : cI M) (hX : X.1 < 2147483648) (hx : ∀ k : Nat, pR (X.2 k)) (hi : i + 4 ≤ X.1) (h : fx_and (X.2 (i : Int).toNat) 31 = 3) : lS X M i := by
  obtain ⟨z, M1, M2, h1, h2, hc, hz⟩ := op_clear (X := X) (x1 := X.2 ((i : Int) + 1).toNat) hI (hx _)
  exact ⟨M2, hc, fun r M' kk => r191_8c3 hX (by omega) h (r191_105 hX (by omega) h1 (r191_112 hX (by omega) h2 (r191_119T ⟨hz, hz⟩ rfl (r191_559 kk))))⟩
theorem law_4 {i : Nat} (hI : cI M) (hX : X.1 < 2147483648) (hx : ∀ k : Nat, pR (X.2 k)) (hi : i + 4 ≤ X.1) (h : fx_and (X.2 (i : Int).toNat) 31 = 4) : lS X M i := by
  obtain ⟨z, M1, M2, h1, h2, hc, hz⟩ := op_slide (X := X) (x1 := X.2 ((i : Int) + 1).toNat) (x2 := X.2 ((i : Int) + 2).toNat) hI (hx _) (hx _)
  exact ⟨M2, hc, fun r M' kk => r191_8c4 hX (by omega) h (r191_122 hX (by omega) h1 (r191_134 hX (by omega) h2 (r191_146T ⟨hz, hz⟩ rfl (r191_559 kk))))⟩
theorem law_5 {i : Nat} (hI : cI M) (hX : X.1 < 2147483648) (hx : ∀ k : Nat, pR (X.2 k)) (hi : i + 4 ≤ X.1) (h : fx_and (X.2 (i : Int).toNat) 31 = 5) : lS X M i := by
  obtain ⟨z, M1, M2, h1, h2, hc, hz⟩ := op_turn (X := X) (x1 := X.2 ((i : Int) + 1).toNat) (x2 := X.2 ((i : Int) + 2).toNat) hI (hx _) (hx _)
  exact ⟨M2, hc, fun r M' kk => r191_8c5 hX (by omega) h (r191_149 hX (by omega) h1 (r191_161 hX (by omega) h2 (r191_173T ⟨hz, hz⟩ rfl (r191_559 kk))))⟩
theorem law_6 {i : Nat} (hI : cI M) (hX : X.1 < 2147483648) (hx : ∀ k : Nat, pR (X.2 k)) (hi : i + 4 ≤ X.1) (h : fx_and (X.2 (i : Int).toNat) 31 = 6) : lS X M i := by
  obtain ⟨z, M1, M2, h1, h2, hc, hz⟩ := op_exchange (X := X) (x1 := X.2 ((i : Int) + 1).toNat) (x2 := X.2 ((i : Int) + 2).toNat) hI (hx _) (hx _)
  exact ⟨M2, hc, fun r M' kk => r191_8c6 hX (by omega) h (r191_176 hX (by omega) h1 (r191_188 hX (by omega) h2 (r191_200T ⟨hz, hz⟩ rfl (r191_559 kk))))⟩
theorem law_7 {i : Nat} (hI : cI M) (hX : X.1 < 2147483648) (hx : ∀ k : Nat, pR (X.2 k)) (hi : i + 4 ≤ X.1) (h : fx_and (X.2 (i : Int).toNat) 31 = 7) : lS X M i := by
  obtain ⟨z, M1, M2, h1, h2, hc, hz⟩ := op_takeUp (X := X) (x1 := X.2 ((i : Int) + 1).toNat) hI (hx _)
  exact ⟨M2, hc, fun r M' kk => r191_8c7 hX (by omega) h (r191_203 hX (by omega) h1 (r191_210 hX (by omega) h2 (r191_217T ⟨hz, hz⟩ rfl (r191_559 kk))))⟩
theorem law_8 {i : Nat} (hI : cI M) (hX : X.1 < 2147483648) (hx : ∀ k : Nat, pR (X.2 k)) (hi : i + 4 ≤ X.1) (h : fx_and (X.2 (i : Int).toNat) 31 = 8) : lS X M i := by
  obtain ⟨z, M1, M2, h1, h2, hc, hz⟩ := op_end (X := X) (x1 := X.2 ((i : Int) + 1).toNat) (x2 := X.2 ((i : Int) + 2).toNat) (x3 := X.2 ((i : Int) + 3).toNat) hI (hx _) (hx _) (hx _)
  exact ⟨M2, hc, fun r M' kk => r191_8c8 hX (by omega) h (r191_220 hX (by omega) h1 (r191_237 hX (by omega) h2 (r191_254T ⟨hz, hz⟩ rfl (r191_559 kk))))⟩
theorem law_9 {i : Nat} (hI : cI M) (hX : X.1 < 2147483648) (hx : ∀ k : Nat, pR (X.2 k)) (hi : i + 4 ≤ X.1) (h : fx_and (X.2 (i : Int).toNat) 31 = 9) : lS X M i := by
  obtain ⟨z, M1, M2, h1, h2, hc, hz⟩ := op_panel (X := X) (x1 := X.2 ((i : Int) + 1).toNat) (x2 := X.2 ((i : Int) + 2).toNat) hI (hx _) (hx _)
  exact ⟨M2, hc, fun r M' kk => r191_8c9 hX (by omega) h (r191_257 hX (by omega) h1 (r191_269 hX (by omega) h2 (r191_281T ⟨hz, hz⟩ rfl (r191_559 kk))))⟩
theorem law_10 {i : Nat} (hI : cI M) (hX : X.1 < 2147483648) (hx : ∀ k : Nat, pR (X.2 k)) (hi : i + 4 ≤ X.1) (h : fx_and (X.2 (i : Int).toNat) 31 = 10) : lS X M i := by
  obtain ⟨z, M1, M2, h1, h2, hc, hz⟩ := op_fold (X := X) (x1 := X.2 ((i : Int) + 1).toNat) (x2 := X.2 ((i : Int) + 2).toNat) hI (hx _) (hx _)
  exact ⟨M2, hc, fun r M' kk => r191_8c10 hX (by omega) h (r191_284 hX (by omega) h1 (r191_296 hX (by omega) h2 (r191_308T ⟨hz, hz⟩ rfl (r191_559 kk))))⟩
theorem law_11 {i : Nat} (hI : cI M) (hX : X.1 < 2147483648) (hx : ∀ k : Nat, pR (X.2 k)) (hi : i + 4 ≤ X.1) (h : fx_and (X.2 (i : Int).toNat) 31 = 11) : lS X M i := by
  obtain ⟨z, M1, M2, h1, h2, hc, hz⟩ := op_hand (X := X) (x1 := X.2 ((i : Int) + 1).toNat) (x2 := X.2 ((i : Int) + 2).toNat) hI (hx _) (hx _)
  exact ⟨M2, hc, fun r M' kk => r191_8c11 hX (by omega) h (r191_311 hX (by omega) h1 (r191_323 hX (by omega) h2 (r191_335T ⟨hz, hz⟩ rfl (r191_559 kk))))⟩
theorem law_12 {i : Nat} (hI : cI M) (hX : X.1 < 2147483648) (hx : ∀ k : Nat, pR (X.2 k)) (hi : i + 4 ≤ X.1) (h : fx_and (X.2 (i : Int).toNat) 31 = 12) : lS X M i := by
  obtain ⟨z, M1, M2, h1, h2, hc, hz⟩ := op_line (X := X) (x1 := X.2 ((i : Int) + 1).toNat) (x2 := X.2 ((i : Int) + 2).toNat) hI (hx _) (hx _)
  exact ⟨M2, hc, fun r M' kk => r191_8c12 hX (by omega) h (r191_338 hX (by omega) h1 (r191_350 hX (by omega) h2 (r191_362T ⟨hz, hz⟩ rfl (r191_559 kk))))⟩
theorem law_13 {i : Nat} (hI : cI M) (hX : X.1 < 2147483648) (hx : ∀ k : Nat, pR (X.2 k)) (hi : i + 4 ≤ X.1) (h : fx_and (X.2 (i : Int).toNat) 31 = 13) : lS X M i := by
  obtain ⟨z, M1, M2, h1, h2, hc, hz⟩ := op_count (X := X) (x1 := X.2 ((i : Int) + 1).toNat) hI (hx _)
  exact ⟨M2, hc, fun r M' kk => r191_8c13 hX (by omega) h (r191_365 hX (by omega) h1 (r191_372 hX (by omega) h2 (r191_379T ⟨hz, hz⟩ rfl (r191_559 kk))))⟩
theorem law_14 {i : Nat} (hI : cI M) (hX : X.1 < 2147483648) (hx : ∀ k : Nat, pR (X.2 k)) (hi : i + 4 ≤ X.1) (h : fx_and (X.2 (i : Int).toNat) 31 = 14) : lS X M i := by
  obtain ⟨z, M1, M2, h1, h2, hc, hz⟩ := op_bestSlide (X := X) (x1 := X.2 ((i : Int) + 1).toNat) (x2 := X.2 ((i : Int) + 2).toNat) hI (hx _) (hx _)
  exact ⟨M2, hc, fun r M' kk => r191_8c14 hX (by omega) h (r191_382 hX (by omega) h1 (r191_394 hX (by omega) h2 (r191_406T ⟨hz, hz⟩ rfl (r191_559 kk))))⟩
theorem law_15 {i : Nat} (hI : cI M) (hX : X.1 < 2147483648) (hx : ∀ k : Nat, pR (X.2 k)) (hi : i + 4 ≤ X.1) (h : fx_and (X.2 (i : Int).toNat) 31 = 15) : lS X M i := by
  obtain ⟨z, M1, M2, h1, h2, hc, hz⟩ := op_bestExchange (X := X) (x1 := X.2 ((i : Int) + 1).toNat) hI (hx _)
  exact ⟨M2, hc, fun r M' kk => r191_8c15 hX (by omega) h (r191_409 hX (by omega) h1 (r191_416 hX (by omega) h2 (r191_423T ⟨hz, hz⟩ rfl (r191_559 kk))))⟩
theorem law_16 {i : Nat} (hI : cI M) (hX : X.1 < 2147483648) (hx : ∀ k : Nat, pR (X.2 k)) (hi : i + 4 ≤ X.1) (h : fx_and (X.2 (i : Int).toNat) 31 = 16) : lS X M i := by
  obtain ⟨z, M1, M2, h1, h2, hc, hz⟩ := op_ifTurned (X := X) (x1 := X.2 ((i : Int) + 1).toNat) (x2 := X.2 ((i : Int) + 2).toNat) (x3 := X.2 ((i : Int) + 3).toNat) hI (hx _) (hx _) (hx _)
  exact ⟨M2, hc, fun r M' kk => r191_8c16 hX (by omega) h (r191_426 hX (by omega) h1 (r191_443 hX (by omega) h2 (r191_460T ⟨hz, hz⟩ rfl (r191_559 kk))))⟩
theorem law_17 {i : Nat} (hI : cI M) (hX : X.1 < 2147483648) (hx : ∀ k : Nat, pR (X.2 k)) (hi : i + 4 ≤ X.1) (h : fx_and (X.2 (i : Int).toNat) 31 = 17) : lS X M i := by
  obtain ⟨z, M1, M2, h1, h2, hc, hz⟩ := op_put (X := X) hI (((Int32.ofInt (X.2 ((i : Int) + 1).toNat)).toInt64 <<< ((Int32.ofInt 32).toInt64 &&& 63)) ||| ((Int32.ofInt (X.2 ((i : Int) + 2).toNat)).toInt64 &&& Int64.ofInt 4294967295))
  exact ⟨M2, hc, fun r M' kk => r191_8c17 hX (by omega) h (r191_463 hX (by omega) h1 (r191_482 hX (by omega) h2 (r191_501T ⟨hz, hz⟩ rfl (r191_559 kk))))⟩
theorem law_18 {i : Nat} (hI : cI M) (hX : X.1 < 2147483648) (hx : ∀ k : Nat, pR (X.2 k)) (hi : i + 4 ≤ X.1) (h : fx_and (X.2 (i : Int).toNat) 31 = 18) : lS X M i := by
  obtain ⟨z, M1, M2, h1, h2, hc, hz⟩ := op_wipe (X := X) hI
  exact ⟨M2, hc, fun r M' kk => r191_8c18 hX (by omega) h (r191_504 h1 (r191_506 h2 (r191_508T ⟨hz, hz⟩ rfl (r191_559 kk))))⟩
theorem law_19 {i : Nat} (hI : cI M) (hX : X.1 < 2147483648) (hx : ∀ k : Nat, pR (X.2 k)) (hi : i + 4 ≤ X.1) (h : fx_and (X.2 (i : Int).toNat) 31 = 19) : lS X M i := by
  obtain ⟨z, M1, M2, h1, h2, hc, hz⟩ := op_fault (X := X) hI
  exact ⟨M2, hc, fun r M' kk => r191_8c19 hX (by omega) h (r191_511 h1 (r191_513 h2 (r191_515T ⟨hz, hz⟩ rfl (r191_559 kk))))⟩
theorem law_20 {i : Nat} (hI : cI M) (hX : X.1 < 2147483648) (hx : ∀ k : Nat, pR (X.2 k)) (hi : i + 4 ≤ X.1) (h : fx_and (X.2 (i : Int).toNat) 31 = 20) : lS X M i := by
  obtain ⟨z, M1, M2, h1, h2, hc, hz⟩ := op_undo (X := X) hI
  exact ⟨M2, hc, fun r M' kk => r191_8c20 hX (by omega) h (r191_518 h1 (r191_520 h2 (r191_522T ⟨hz, hz⟩ rfl (r191_559 kk))))⟩
theorem law_21 {i : Nat} (hI : cI M) (hX : X.1 < 2147483648) (hx : ∀ k : Nat, pR (X.2 k)) (hi : i + 4 ≤ X.1) (h : fx_and (X.2 (i : Int).toNat) 31 = 21) : lS X M i := by
  obtain ⟨z, M1, M2, h1, h2, hc, hz⟩ := op_save (X := X) (x1 := X.2 ((i : Int) + 1).toNat) hI (hx _)
  exact ⟨M2, hc, fun r M' kk => r191_8c21 hX (by omega) h (r191_525 hX (by omega) h1 (r191_532 hX (by omega) h2 (r191_539T ⟨hz, hz⟩ rfl (r191_559 kk))))⟩
theorem law_22 {i : Nat} (hI : cI M) (hX : X.1 < 2147483648) (hx : ∀ k : Nat, pR (X.2 k)) (hi : i + 4 ≤ X.1) (h : fx_and (X.2 (i : Int).toNat) 31 = 22) : lS X M i := by
  obtain ⟨z, M1, M2, h1, h2, hc, hz⟩ := op_restore (X := X) (x1 := X.2 ((i : Int) + 1).toNat) hI (hx _)
  exact ⟨M2, hc, fun r M' kk => r191_8c22 hX (by omega) h (r191_542 hX (by omega) h1 (r191_549 hX (by omega) h2 (r191_556T ⟨hz, hz⟩ rfl (r191_559 kk))))⟩
theorem law_s {i : Nat} (hI : cI M) (hX : X.1 < 2147483648) (hx : ∀ k : Nat, pR (X.2 k)) (hi : i + 4 ≤ X.1) : lS X M i := by
  have hr : pR (fx_and (X.2 (i : Int).toNat) 31) := q_rg _
  by_cases hD : fx_and (X.2 (i : Int).toNat) 31 < 0 ∨ 22 < fx_and (X.2 (i : Int).toNat) 31
  · exact ⟨M, hI, fun r M' kk => r191_8D hX ⟨by omega, hr⟩ hD (r191_559 kk)⟩
  · obtain ⟨n, hn⟩ := nat_of (show 0 ≤ fx_and (X.2 (i : Int).toNat) 31 by omega)
    have hn2 : n < 23 := by omega
    match n, hn, hn2 with
    | 0, h, _ => exact law_0 hI hX hx hi h
    | 1, h, _ => exact law_1 hI hX hx hi h
    | 2, h, _ => exact law_2 hI hX hx hi h
    | 3, h, _ => exact law_3 hI hX hx hi h
    | 4, h, _ => exact law_4 hI hX hx hi h
    | 5, h, _ => exact law_5 hI hX hx hi h
    | 6, h, _ => exact law_6 hI hX hx hi h
    | 7, h, _ => exact law_7 hI hX hx hi h
    | 8, h, _ => exact law_8 hI hX hx hi h
    | 9, h, _ => exact law_9 hI hX hx hi h
    | 10, h, _ => exact law_10 hI hX hx hi h
    | 11, h, _ => exact law_11 hI hX hx hi h
    | 12, h, _ => exact law_12 hI hX hx hi h
    | 13, h, _ => exact law_13 hI hX hx hi h
    | 14, h, _ => exact law_14 hI hX hx hi h
    | 15, h, _ => exact law_15 hI hX hx hi h
    | 16, h, _ => exact law_16 hI hX hx hi h
    | 17, h, _ => exact law_17 hI hX hx hi h
    | 18, h, _ => exact law_18 hI hX hx hi h
    | 19, h, _ => exact law_19 hI hX hx hi h
    | 20, h, _ => exact law_20 hI hX hx hi h
    | 21, h, _ => exact law_21 hI hX hx hi h
    | 22, h, _ => exact law_22 hI hX hx hi h
    | k + 23, _, h => exact absurd h (by omega)
theorem ev_law (hX2 : X.1 ≤ 2048) (h0 : 0 < X.1) (hx : ∀ k : Nat, pR (X.2 k)) (hI : cI M) : ∃ M', Ev X 191 0 [fx_f 71, fx_f 0, fx_f 56, fx_u] [] M (some (.inl 1)) M' := by
  have hX : X.1 < 2147483648 := by omega
  have key : ∀ (d i : Nat) (M : fx_M), cI M → X.1 ≤ i + 4 * d → i ≤ X.1 + 4 → X.1 + 4 < 2147483648 → ∃ M', Ev X 191 2 [fx_f 71, fx_f 0, fx_f 56, .inl (i : Int)] [] M (some (.inl 1)) M' := by
    intro d
    induction d with
    | zero =>
      intro i M hI hd hi hb
      exact ⟨M, r191_2T h0 (by omega) (by omega) r191_561⟩
    | succ d ih =>
      intro i M hI hd hi hb
      by_cases hl : i + 4 ≤ X.1
      · obtain ⟨M2, h1, h2⟩ := law_s hI hX hx hl
        obtain ⟨M', h3⟩ := ih (i + 4) M2 h1 (by omega) (by omega) hb
        exact ⟨M', r191_2F h0 (by omega) (by omega) (h2 _ _ h3)⟩
      · exact ⟨M, r191_2T h0 (by omega) (by omega) r191_561⟩
  by_cases hb : X.1 + 4 < 2147483648
  · obtain ⟨M', h⟩ := key X.1 0 M hI (by omega) (by omega) hb
    exact ⟨M', r191_0 h⟩
  · omega
end LAW

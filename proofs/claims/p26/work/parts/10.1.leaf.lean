/-! small methods -/
section EVS
variable {X : fx_Sc} {M M' : fx_M} {j i : Nat} {ls st : List fx_V}
theorem Ev.res {x y : Int} (h : x = y) (k : Ev X j i ls st M (some (.inl x)) M') : Ev X j i ls st M (some (.inl y)) M' := h ▸ k
theorem Ev.mem {r : Option fx_V} {M1 : fx_M} (h : M1 = M') (k : Ev X j i ls st M r M1) : Ev X j i ls st M r M' := h ▸ k
abbrev pR (x : Int) : Prop := -2147483648 ≤ x ∧ x < 2147483648
theorem ev_isPanel_y {x : Int} (h : 0 ≤ x ∧ x < 6) : Ev X 1 0 [.inl x] [] M (some (.inl 1)) M := r1_0F (by omega) (by omega) (r1_2F (by omega) (by omega) r1_5)
theorem ev_isPanel_n {x : Int} (hr : pR x) (h : x < 0 ∨ 6 ≤ x) : Ev X 1 0 [.inl x] [] M (some (.inl 0)) M := by
  by_cases h0 : x < 0
  · exact r1_0T hr h0 r1_7
  · exact r1_0F hr (by omega) (r1_2T hr (by omega) r1_7)
theorem ev_isHand_y {x : Int} (h : 0 ≤ x ∧ x < 6) : Ev X 2 0 [.inl x] [] M (some (.inl 1)) M := r2_0F (by omega) (by omega) (r2_2F (by omega) (by omega) r2_5)
theorem ev_isHand_n {x : Int} (hr : pR x) (h : x < 0 ∨ 6 ≤ x) : Ev X 2 0 [.inl x] [] M (some (.inl 0)) M := by
  by_cases h0 : x < 0
  · exact r2_0T hr h0 r2_7
  · exact r2_0F hr (by omega) (r2_2T hr (by omega) r2_7)
theorem ev_isEnd_y {x : Int} (h : 0 ≤ x ∧ x < 24) : Ev X 4 0 [.inl x] [] M (some (.inl 1)) M := r4_0F (by omega) (by omega) (r4_2F (by omega) (by omega) r4_5)
theorem ev_isEnd_n {x : Int} (hr : pR x) (h : x < 0 ∨ 24 ≤ x) : Ev X 4 0 [.inl x] [] M (some (.inl 0)) M := by
  by_cases h0 : x < 0
  · exact r4_0T hr h0 r4_7
  · exact r4_0F hr (by omega) (r4_2T hr (by omega) r4_7)
theorem ev_isPlace_y {x : Int} (h : 0 ≤ x ∧ x < 144) : Ev X 6 0 [.inl x] [] M (some (.inl 1)) M := r6_0F (by omega) (by omega) (r6_2F (by omega) (by omega) r6_5)
theorem ev_isPlace_n {x : Int} (hr : pR x) (h : x < 0 ∨ 144 ≤ x) : Ev X 6 0 [.inl x] [] M (some (.inl 0)) M := by
  by_cases h0 : x < 0
  · exact r6_0T hr h0 r6_7
  · exact r6_0F hr (by omega) (r6_2T hr (by omega) r6_7)
theorem ev_isFold_y {x : Int} (h : 0 ≤ x ∧ x < 5) : Ev X 21 0 [.inl x] [] M (some (.inl 1)) M := r21_0F (by omega) (by omega) (r21_2F (by omega) (by omega) r21_5)
theorem ev_isFold_n {x : Int} (hr : pR x) (h : x < 0 ∨ 5 ≤ x) : Ev X 21 0 [.inl x] [] M (some (.inl 0)) M := by
  by_cases h0 : x < 0
  · exact r21_0T hr h0 r21_7
  · exact r21_0F hr (by omega) (r21_2T hr (by omega) r21_7)
theorem ev_isSlot_y {x : Int} (h : 0 ≤ x ∧ x < 2) : Ev X 36 0 [.inl x] [] M (some (.inl 1)) M := r36_0F (by omega) (by omega) (r36_2F (by omega) (by omega) r36_5)
theorem ev_isSlot_n {x : Int} (hr : pR x) (h : x < 0 ∨ 2 ≤ x) : Ev X 36 0 [.inl x] [] M (some (.inl 0)) M := by
  by_cases h0 : x < 0
  · exact r36_0T hr h0 r36_7
  · exact r36_0F hr (by omega) (r36_2T hr (by omega) r36_7)
theorem ev_isIndex_y {x : Int} (h : 0 ≤ x ∧ x < 72) : Ev X 43 0 [.inl x] [] M (some (.inl 1)) M := r43_0F (by omega) (by omega) (r43_2F (by omega) (by omega) r43_5)
theorem ev_isIndex_n {x : Int} (hr : pR x) (h : x < 0 ∨ 72 ≤ x) : Ev X 43 0 [.inl x] [] M (some (.inl 0)) M := by
  by_cases h0 : x < 0
  · exact r43_0T hr h0 r43_7
  · exact r43_0F hr (by omega) (r43_2T hr (by omega) r43_7)
theorem ev_isTurn_y {x : Int} (h : 0 ≤ x ∧ x < 3) : Ev X 13 0 [.inl x] [] M (some (.inl 1)) M := by
  by_cases h0 : x = 0
  · exact r13_0T (by omega) h0 r13_8
  · by_cases h1 : x = 1
    · exact r13_0F (by omega) h0 (r13_2T (by omega) h1 r13_8)
    · exact r13_0F (by omega) h0 (r13_2F (by omega) h1 (r13_5F (by omega) (by omega) r13_8))
theorem ev_isTurn_n {x : Int} (hr : pR x) (h : x < 0 ∨ 3 ≤ x) : Ev X 13 0 [.inl x] [] M (some (.inl 0)) M :=
  r13_0F (by omega) (by omega) (r13_2F (by omega) (by omega) (r13_5T (by omega) (by omega) r13_10))
/-- the place across the fold; -1: none -/
def pn (k : Nat) : Int := if k % 24 < 12 then (if 12 ≤ k then (k : Int) - 12 else -1) else (if k + 12 < 144 then (k : Int) + 12 else -1)
theorem pn_rg {k : Nat} (hk : k < 144) : -1 ≤ pn k ∧ pn k < 144 := by
  unfold pn
  split <;> split <;> omega
theorem ev_neighbourOf {k : Nat} (hk : k < 144) : Ev X 17 0 [.inl (k : Int), fx_u, fx_u] [] M (some (.inl (pn k))) M := by
  have hr : fx_rem (k : Int) 24 = ((k % 24 : Nat) : Int) := pb_rem (d := 24) (by omega) (by omega) (by omega)
  refine r17_0 (ev_isPlace_y (by omega)) (r17_2T (by omega) (by omega) ?_)
  unfold pn
  by_cases h : k % 24 < 12
  · rw [if_pos h]
    refine r17_5F (by rw [hr]; omega) (by rw [hr]; omega) ?_
    by_cases h2 : 12 ≤ k
    · rw [if_pos h2]
      exact r17_10 (ev_isPlace_y (by omega)) (r17_26F (by omega) (by omega) r17_27)
    · rw [if_neg h2]
      exact r17_10 (ev_isPlace_n (by constructor <;> omega) (by omega)) (r17_26T (by omega) (by omega) r17_29)
  · rw [if_neg h]
    refine r17_5T (by rw [hr]; omega) (by rw [hr]; omega) ?_
    by_cases h2 : k + 12 < 144
    · rw [if_pos h2]
      exact r17_12 (ev_isPlace_y (by omega)) (r17_26F (by omega) (by omega) r17_27)
    · rw [if_neg h2]
      exact r17_12 (ev_isPlace_n (by constructor <;> omega) (by omega)) (r17_26T (by omega) (by omega) r17_29)
theorem ev_panelOf {k : Nat} (hk : k < 144) : Ev X 18 0 [.inl (k : Int)] [] M (some (.inl ((k / 24 : Nat) : Int))) M := Ev.res (pb_div (d := 24) (by omega) (by omega) (by omega)) r18_0
/-! the JDK's bitCount over sets of twelve places -/
def pb_b1 (x : Int) : Int := x - (fx_and (fx_ushr x 1) 1431655765)
def pb_b2 (x : Int) : Int := (fx_and x 858993459) + (fx_and (fx_ushr x 2) 858993459)
def pb_b3 (x : Int) : Int := fx_and (x + fx_ushr x 4) 252645135
def pb_b4 (x : Int) : Int := x + fx_ushr x 8
def pb_b5 (x : Int) : Int := x + fx_ushr x 16
def pb_b6 (x : Int) : Int := fx_and x 63
def pb_bc (x : Int) : Int := pb_b6 (pb_b5 (pb_b4 (pb_b3 (pb_b2 (pb_b1 x)))))
theorem ev_bc0 {x : Int} : Ev X 182 0 [.inl x] [] M (some (.inl (pb_bc x))) M := r182_0
theorem pb_bc_all : ∀ a, a < 64 → ∀ b, b < 64 → pb_bc ((64 * a + b : Nat) : Int) = ((pb_c (fun i => (64 * a + b).testBit i) 12 : Nat) : Int) := by decide +kernel
theorem pb_bc_eq {n : Nat} (h : n < 4096) : pb_bc (n : Int) = ((pb_c (fun i => n.testBit i) 12 : Nat) : Int) := by
  have := pb_bc_all (n / 64) (by omega) (n % 64) (by omega)
  rwa [show 64 * (n / 64) + n % 64 = n by omega] at this
theorem ev_bitCount {P : Nat → Bool} : Ev X 182 0 [.inl ((pb_s P 12 : Nat) : Int)] [] M (some (.inl ((pb_c P 12 : Nat) : Int))) M := by
  refine Ev.res ?_ ev_bc0
  rw [pb_bc_eq (pb_s_lt P 12)]
  congr 1
  refine pb_c_ext fun i hi => ?_
  rw [pb_s_bit]
  simp [hi]
end EVS

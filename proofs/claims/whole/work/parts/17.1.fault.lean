/-! the class: the first fault of a text -/
section PAC
variable {X : fx_Sc} {M M' : fx_M}
theorem tgo_124 {u c : Nat} : tgo u c 124 = tcd u c := by unfold tgo; simp
theorem tgo_94 {u c : Nat} : tgo u c 94 = tca u c := by unfold tgo; simp
theorem tgo_95 {u c : Nat} : tgo u c 95 = tcb u c := by unfold tgo; simp
theorem ev_canGoOn' {u : Nat} {x s : Int} (hu : u < 2 ^ 24) (hx : -1 ≤ x ∧ x < 12) (hs : pR s) : Ev X 63 0 [.inl x, .inl s, .inl (u : Int)] [] M (some (.inl (if (decide (x ≠ -1) && tgo u x.toNat s) = true then 1 else 0))) M := by
  by_cases h : x = -1
  · subst h
    rw [if_neg (by simp)]
    exact r63_0T (by decide) rfl r63_11
  · obtain ⟨c, rfl⟩ := nat_of (show 0 ≤ x by omega)
    have e : (c : Int).toNat = c := by omega
    rw [e, show decide ((c : Int) ≠ -1) = true by rw [decide_eq_true_eq]; exact h, Bool.true_and]
    exact ev_canGoOn hu (by omega) hs
theorem ev_canBegin {u : Nat} {x : Int} (hu : u < 2 ^ 24) (hx : -1 ≤ x ∧ x < 12) : Ev X 62 0 [.inl x, .inl (u : Int)] [] M (some (.inl (if (decide (x ≠ -1) && (tcd u x.toNat || (tca u x.toNat || tcb u x.toNat))) = true then 1 else 0))) M := by
  have g1 := ev_canGoOn' (X := X) (M := M) (s := 124) hu hx (by decide)
  have g2 := ev_canGoOn' (X := X) (M := M) (s := 94) hu hx (by decide)
  have g3 := ev_canGoOn' (X := X) (M := M) (s := 95) hu hx (by decide)
  rw [tgo_124] at g1
  rw [tgo_94] at g2
  rw [tgo_95] at g3
  cases hd : decide (x ≠ -1)
  · rw [hd, Bool.false_and, if_neg (by simp)] at g1 g2 g3
    rw [Bool.false_and, if_neg (by simp)]
    exact r62_0 g1 (r62_4F (by omega) rfl (r62_5 g2 (r62_9F (by omega) rfl (r62_10 g3 (r62_14T (by omega) rfl r62_17)))))
  · rw [hd, Bool.true_and] at g1 g2 g3
    rw [Bool.true_and]
    cases h1 : tcd u x.toNat
    · rw [h1, if_neg (by simp)] at g1
      refine r62_0 g1 (r62_4F (by omega) rfl ?_)
      cases h2 : tca u x.toNat
      · rw [h2, if_neg (by simp)] at g2
        refine r62_5 g2 (r62_9F (by omega) rfl ?_)
        cases h3 : tcb u x.toNat
        · rw [h3, if_neg (by simp)] at g3
          rw [if_neg (by simp)]
          exact r62_10 g3 (r62_14T (by omega) rfl r62_17)
        · rw [h3, if_pos rfl] at g3
          rw [if_pos (by simp)]
          exact r62_10 g3 (r62_14F (by omega) (by omega) r62_15)
      · rw [h2, if_pos rfl] at g2
        rw [if_pos (by simp)]
        exact r62_5 g2 (r62_9T (by omega) (by omega) r62_15)
    · rw [h1, if_pos rfl] at g1
      rw [if_pos (by simp)]
      exact r62_0 g1 (r62_4T (by omega) (by omega) r62_15)
theorem ev_firstEnd {n t : Nat} (h : pT M n) (ht : t < 20) (hl : tl (M 18) n (4 * t) ≠ -1) : Ev X 68 0 [fx_f 17, .inl ((4 * t : Nat) : Int)] [] M (some (.inl (tf (M 18) n t : Int))) M := by
  have b := tc_b h.2.2 (4 * t + 1)
  have lb := tl_b (M 18) n (4 * t)
  refine r68_0 (ev_columnAt h (by omega)) (r68_3 ?_ (r68_8 (ev_endFrom (s := tc (M 18) n (4 * t + 1)) (by constructor <;> omega)) (Ev.res ?_ r68_9)))
  · have c1 := ev_charAt (X := X) (i := 4 * t + 1) h (by omega)
    rw [show ((4 * t + 1 : Nat) : Int) = ((4 * t : Nat) : Int) + 1 by push_cast; rfl] at c1
    exact c1
  · unfold tf
    split <;> omega
theorem ev_secondEnd {n t : Nat} (h : pT M n) (ht : t < 20) (hl : tl (M 18) n (4 * t + 2) ≠ -1) : Ev X 67 0 [fx_f 17, .inl ((4 * t : Nat) : Int), fx_u] [] M (some (.inl (ts (M 18) n t : Int))) M := by
  have b := tc_b h.2.2 (4 * t + 1)
  have lb := tl_b (M 18) n (4 * t + 2)
  have c2 := ev_columnAt (X := X) (i := 4 * t + 2) h (by omega)
  have c1 := ev_charAt (X := X) (i := 4 * t + 1) h (by omega)
  have e1 : ((4 * t : Nat) : Int) + 2 = ((4 * t + 2 : Nat) : Int) := by push_cast; rfl
  have e2 : ((4 * t : Nat) : Int) + 1 = ((4 * t + 1 : Nat) : Int) := by push_cast; rfl
  refine r67_0 (by rw [e1]; exact c2) (r67_5 (by rw [e2]; exact c1) ?_)
  unfold ts
  by_cases h94 : tc (M 18) n (4 * t + 1) = 94
  · rw [if_pos h94]
    exact r67_11F (by omega) h94 (Ev.res (by omega) r67_13)
  · rw [if_neg h94]
    exact r67_11T (by omega) h94 (Ev.res (by omega) r67_15)
theorem tto_bit {c e : Nat} {s : Int} (he : e < 24) : (tto c s).testBit e = ((decide (s = 124) && decide (12 ≤ e)) || ((decide (s = 94) && (decide (c < e) && decide (e < 12))) || (decide (s = 95) && decide (12 + c < e)))) := by
  unfold tto
  by_cases h1 : s = 124
  · rw [if_pos h1, pb_s_bit]
    subst h1
    simp [he]
  · rw [if_neg h1]
    by_cases h2 : s = 94
    · rw [if_pos h2, pb_s_bit]
      subst h2
      simp [Bool.and_comm]
    · rw [if_neg h2]
      by_cases h3 : s = 95
      · rw [if_pos h3, pb_s_bit]
        subst h3
        simp [he]
      · rw [if_neg h3]
        simp [h1, h2, h3]
theorem ev_canClose {n t u : Nat} (h : pT M n) (ht : t < 20) (hu : u < 2 ^ 24) (h0 : tl (M 18) n (4 * t) ≠ -1) : Ev X 66 0 [fx_f 17, .inl ((4 * t + 2 : Nat) : Int), .inl (u : Int), fx_u] [] M
    (some (.inl (if (decide (tl (M 18) n (4 * t + 2) ≠ -1) && (un u (ts (M 18) n t) && (decide (tc (M 18) n (4 * t + 1) = 124) || ((decide (tc (M 18) n (4 * t + 1) = 94) || decide (tc (M 18) n (4 * t + 1) = 95)) && decide (tl (M 18) n (4 * t) < tl (M 18) n (4 * t + 2)))))) = true then 1 else 0))) M := by
  have b := tc_b h.2.2 (4 * t + 1)
  have lb := tl_b (M 18) n (4 * t)
  have lb2 := tl_b (M 18) n (4 * t + 2)
  have e24 : (2 : Nat) ^ 24 = 16777216 := by decide
  refine r66_0 (ev_columnAt h (by omega)) ?_
  by_cases h2 : tl (M 18) n (4 * t + 2) = -1
  · rw [if_neg (by rw [h2]; simp)]
    exact r66_3F (by omega) h2 r66_5
  · refine r66_3T (by omega) h2 ?_
    obtain ⟨c, hc⟩ := nat_of (show 0 ≤ tl (M 18) n (4 * t) by omega)
    have i0 : ((4 * t + 2 : Nat) : Int) - 2 = ((4 * t : Nat) : Int) := by push_cast; omega
    have i1 : ((4 * t + 2 : Nat) : Int) - 1 = ((4 * t + 1 : Nat) : Int) := by push_cast; omega
    have c0 := ev_columnAt (X := X) (i := 4 * t) h (by omega)
    rw [hc] at c0
    have c1 := ev_charAt (X := X) (i := 4 * t + 1) h (by omega)
    refine r66_7 (by rw [i0]; exact c0) (r66_12 (by rw [i1]; exact c1) (r66_17 (ev_endsTo (c := c) (s := tc (M 18) n (4 * t + 1)) (by omega) (by constructor <;> omega)) (r66_18 (by rw [i0]; exact ev_secondEnd h ht h2) ?_)))
    have tb := tto_b (c := c) (s := tc (M 18) n (4 * t + 1))
    have hd := pb_andn (a := tto c (tc (M 18) n (4 * t + 1))) (b := u) (by omega) (by omega)
    have db := pb_d_le (n := 24) (b := u) tb
    have sb := ts_b (M 18) n t
    have hm := pb_mask (a := pb_d (tto c (tc (M 18) n (4 * t + 1))) u) (c := ts (M 18) n t) (by omega) (by omega)
    have pe : (2 : Nat) ^ ts (M 18) n t < 2 ^ 24 := Nat.pow_lt_pow_right (by omega) sb
    have pp := Nat.two_pow_pos (ts (M 18) n t)
    generalize (2 : Nat) ^ ts (M 18) n t = w at hm pe pp
    rw [hd]
    have key : (decide (tl (M 18) n (4 * t + 2) ≠ -1) && (un u (ts (M 18) n t) && (decide (tc (M 18) n (4 * t + 1) = 124) || ((decide (tc (M 18) n (4 * t + 1) = 94) || decide (tc (M 18) n (4 * t + 1) = 95)) && decide (tl (M 18) n (4 * t) < tl (M 18) n (4 * t + 2)))))) = (pb_d (tto c (tc (M 18) n (4 * t + 1))) u).testBit (ts (M 18) n t) := by
      rw [pb_d_bit, tto_bit sb, show decide (tl (M 18) n (4 * t + 2) ≠ -1) = true by rw [decide_eq_true_eq]; exact h2, Bool.true_and]
      unfold un
      rw [Bool.and_comm]
      congr 1
      unfold ts
      by_cases s1 : tc (M 18) n (4 * t + 1) = 124
      · rw [s1, if_neg (by omega)]
        simp
        omega
      · by_cases s2 : tc (M 18) n (4 * t + 1) = 94
        · rw [s2, if_pos rfl, hc]
          simp
          omega
        · rw [if_neg s2]
          by_cases s3 : tc (M 18) n (4 * t + 1) = 95
          · rw [s3, hc]
            simp
          · simp [s1, s2, s3]
    rw [key]
    by_cases hb : (pb_d (tto c (tc (M 18) n (4 * t + 1))) u).testBit (ts (M 18) n t) = true
    · rw [if_pos hb] at hm ⊢
      exact r66_30F (by rw [hm]; omega) (by rw [hm]; omega) r66_33
    · rw [if_neg hb] at hm ⊢
      exact r66_30T (by rw [hm]; omega) hm r66_35
theorem ev_canStand {n c : Nat} (h : pT M n) (hc : c < 61) (h0 : c % 4 = 2 → tl (M 18) n (c - 2) ≠ -1) : Ev X 59 0 [fx_f 17, .inl (c : Int), .inl (tm (M 18) n ((c + 1) / 4) : Int)] [] M (some (.inl (if tst (M 18) n c = true then 1 else 0))) M := by
  have er : fx_rem (c : Int) 4 = ((c % 4 : Nat) : Int) := pb_rem (d := 4) (by omega) (by omega) (by omega)
  unfold tst
  by_cases q0 : c % 4 = 0
  · rw [if_pos q0, show (c + 1) / 4 = c / 4 by omega]
    refine r59_0c0 (by rw [er]; omega) (r59_4 (ev_columnAt h (by omega)) (r59_7 (ev_canBegin (tm_b _ _ _) (tl_b _ _ _)) (r59_9 ?_)))
    split <;> omega
  · rw [if_neg q0]
    by_cases q1 : c % 4 = 1
    · rw [if_pos q1, show (c + 1) / 4 = c / 4 by omega]
      have i1 : (c : Int) - 1 = ((c - 1 : Nat) : Int) := by omega
      have b := tc_b h.2.2 c
      refine r59_0c1 (by rw [er]; omega) (r59_10 (by rw [i1]; exact ev_columnAt h (by omega)) (r59_15 (ev_charAt h (by omega)) (r59_18 (ev_canGoOn' (tm_b _ _ _) (tl_b _ _ _) (by constructor <;> omega)) (r59_20 ?_))))
      split <;> omega
    · rw [if_neg q1]
      by_cases q2 : c % 4 = 2
      · rw [if_pos q2]
        obtain ⟨t, rfl⟩ : ∃ t, c = 4 * t + 2 := ⟨c / 4, by omega⟩
        have a1 : (4 * t + 2) / 4 = t := by omega
        have a2 : (4 * t + 2 + 1) / 4 = t := by omega
        have a3 : 4 * t + 2 - 1 = 4 * t + 1 := by omega
        have a4 : 4 * t + 2 - 2 = 4 * t := by omega
        have h0' := h0 q2
        rw [a4] at h0'
        have cl := ev_canClose (X := X) (t := t) (u := tm (M 18) n t) h (by omega) (tm_b _ _ _) h0'
        rw [a1, a2, a3, a4]
        refine r59_0c2 (by rw [er]; omega) (r59_21 cl (r59_25 ?_))
        split <;> omega
      · rw [if_neg q2, show (c + 1) / 4 = c / 4 + 1 by omega]
        have b := tc_b h.2.2 c
        have tb := tm_b (M 18) n (c / 4 + 1)
        have e24 : (2 : Nat) ^ 24 = 16777216 := by decide
        refine r59_0D (by rw [er]; omega) (by rw [er]; omega) (r59_26 (ev_charAt h (by omega)) ?_)
        by_cases s1 : tc (M 18) n c = 59
        · refine r59_29F (by omega) s1 ?_
          by_cases s2 : tm (M 18) n (c / 4 + 1) = 16777215
          · rw [if_neg (by simp [s2])]
            exact r59_31T (by omega) (by rw [s2]; rfl) r59_36
          · rw [if_pos (by simp [s1, s2])]
            exact r59_31F (by omega) (by omega) r59_34
        · rw [if_neg (by simp [s1])]
          exact r59_29T (by omega) s1 r59_36
theorem tst_0 {T : Nat → Int} {n t : Nat} (h : tst T n (4 * t) = true) : tl T n (4 * t) ≠ -1 := by
  unfold tst at h
  rw [if_pos (by omega), Bool.and_eq_true, decide_eq_true_eq] at h
  exact h.1
theorem tst_2 {T : Nat → Int} {n t : Nat} (h : tst T n (4 * t + 2) = true) : tl T n (4 * t + 2) ≠ -1 := by
  unfold tst at h
  rw [if_neg (by omega), if_neg (by omega), if_pos (by omega), Bool.and_eq_true, decide_eq_true_eq] at h
  exact h.1
theorem ev_firstFault {n f : Nat} (h : pT M n) (hf : f ≤ n) (hs : tst (M 18) n f = false) (ho : ∀ i, i < f → tst (M 18) n i = true) : Ev X 58 0 [fx_f 17, fx_u, fx_u] [] M (some (.inl (if f = n ∧ n % 4 = 3 then -6 else (f : Int)))) M := by
  have h60 := h.1
  have h17 := h.2.1
  have prev : ∀ c, c ≤ f → c % 4 = 2 → tl (M 18) n (c - 2) ≠ -1 := by
    intro c hc q
    have := ho (c - 2) (by omega)
    rw [show c - 2 = 4 * (c / 4) by omega] at this ⊢
    exact tst_0 this
  refine r58_0 ?_
  refine Ev.loop f (fun c => [fx_f 17, .inl (tm (M 18) n ((c + 1) / 4) : Int), .inl (c : Int)]) (fun _ => M) (fun c hc k => ?_) ?_
  · have st := ev_canStand (X := X) h (show c < 61 by omega) (prev c (by omega))
    rw [if_pos (ho c hc)] at st
    have er : fx_rem (c : Int) 4 = ((c % 4 : Nat) : Int) := pb_rem (d := 4) (by omega) (by omega) (by omega)
    refine r58_4F (by rw [h17]; omega) (by rw [h17]; omega) (r58_8 st (r58_12T (by omega) (by omega) ?_))
    by_cases q2 : c % 4 = 2
    · obtain ⟨t, rfl⟩ : ∃ t, c = 4 * t + 2 := ⟨c / 4, by omega⟩
      have l2 := tst_2 (ho (4 * t + 2) hc)
      have l0 := tst_0 (ho (4 * t) (by omega))
      have i0 : ((4 * t + 2 : Nat) : Int) - 2 = ((4 * t : Nat) : Int) := by push_cast; omega
      have e24 : (2 : Nat) ^ 24 = 16777216 := by decide
      have p1 : (2 : Nat) ^ tf (M 18) n t < 2 ^ 24 := Nat.pow_lt_pow_right (by omega) (tf_b _ _ _)
      have p2 : (2 : Nat) ^ ts (M 18) n t < 2 ^ 24 := Nat.pow_lt_pow_right (by omega) (ts_b _ _ _)
      have p3 := Nat.or_lt_two_pow (n := 24) p1 p2
      have b1 := tf_b (M 18) n t
      have b2 := ts_b (M 18) n t
      have tb := tm_b (M 18) n t
      refine r58_15F (by rw [er]; omega) (by rw [er]; omega) (r58_20 (by rw [i0]; exact ev_firstEnd h (by omega) l0) (r58_27 (by rw [i0]; exact ev_secondEnd h (by omega) l2) (r58_34 ?_)))
      rw [show (4 * t + 2 + 1 + 1) / 4 = t + 1 by omega, tm] at k
      rw [show (4 * t + 2 + 1) / 4 = t by omega, pb_shl1 _ (by omega), pb_shl1 _ (by omega), pb_or (by omega) (by omega), pb_or (by omega) (by omega)]
      exact k
    · rw [show (c + 1 + 1) / 4 = (c + 1) / 4 by omega] at k
      exact r58_15T (by rw [er]; omega) (by rw [er]; omega) (r58_38 k)
  · have er : fx_rem (n : Int) 4 = ((n % 4 : Nat) : Int) := pb_rem (d := 4) (by omega) (by omega) (by omega)
    by_cases hl : f < n
    · rw [if_neg (by omega)]
      have st := ev_canStand (X := X) h (show f < 61 by omega) (prev f (Nat.le_refl f))
      rw [if_neg (by rw [hs]; simp)] at st
      exact r58_4F (by rw [h17]; omega) (by rw [h17]; omega) (r58_8 st (r58_12F (by omega) rfl r58_13))
    · have : f = n := by omega
      subst this
      refine r58_4T (by rw [h17]; omega) (by rw [h17]; omega) ?_
      by_cases q3 : f % 4 = 3
      · rw [if_pos ⟨rfl, q3⟩]
        exact r58_40F (by rw [h17, er]; omega) (by rw [h17, er]; omega) r58_46
      · rw [if_neg (fun a => q3 a.2)]
        exact r58_40T (by rw [h17, er]; omega) (by rw [h17, er]; omega) (Ev.res h17 r58_48)
end PAC

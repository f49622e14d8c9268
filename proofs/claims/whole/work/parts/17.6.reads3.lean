section PAV
variable {X : fx_Sc} {M M' : fx_M}
/-- where reading of the stroke t stops -/
def rs (T : Nat → Int) (n t : Nat) : Nat := if tst T n (4 * t) = true then (if tst T n (4 * t + 1) = true then (if tst T n (4 * t + 2) = true then 4 * t + 3 else 4 * t + 2) else 4 * t + 1) else 4 * t
def ro (T : Nat → Int) (n t : Nat) : Bool := tst T n (4 * t) && (tst T n (4 * t + 1) && tst T n (4 * t + 2))
theorem tst_v0 {T : Nat → Int} {n t : Nat} : tst T n (4 * t) = (decide (tl T n (4 * t) ≠ -1) && (tcd (tm T n t) (tl T n (4 * t)).toNat || (tca (tm T n t) (tl T n (4 * t)).toNat || tcb (tm T n t) (tl T n (4 * t)).toNat))) := by
  unfold tst
  rw [if_pos (by omega), show 4 * t / 4 = t by omega]
theorem tst_v1 {T : Nat → Int} {n t : Nat} : tst T n (4 * t + 1) = (decide (tl T n (4 * t) ≠ -1) && tgo (tm T n t) (tl T n (4 * t)).toNat (tc T n (4 * t + 1))) := by
  unfold tst
  rw [if_neg (by omega), if_pos (by omega), show (4 * t + 1) / 4 = t by omega, show 4 * t + 1 - 1 = 4 * t by omega]
theorem tst_v2 {T : Nat → Int} {n t : Nat} : tst T n (4 * t + 2) = (decide (tl T n (4 * t + 2) ≠ -1) && (un (tm T n t) (ts T n t) && (decide (tc T n (4 * t + 1) = 124) || ((decide (tc T n (4 * t + 1) = 94) || decide (tc T n (4 * t + 1) = 95)) && decide (tl T n (4 * t) < tl T n (4 * t + 2)))))) := by
  unfold tst
  rw [if_neg (by omega), if_neg (by omega), if_pos (by omega), show (4 * t + 2) / 4 = t by omega, show 4 * t + 2 - 1 = 4 * t + 1 by omega, show 4 * t + 2 - 2 = 4 * t by omega]
theorem evm_reads {n t : Nat} {rd : Nat → Int} (hn : n ≤ 60) (h15 : M 56 15 = (n : Int)) (hc : ∀ k, k < n → 33 ≤ M 70 k ∧ M 70 k ≤ 126) (ht : 4 * t ≤ n) : Ev X 139 0 [fx_f 56, fx_u, fx_u, fx_u, fx_u, fx_u, fx_u] [] (y_ps M (4 * t) t (tm (M 70) n t) rd) (some (.inl (if ro (M 70) n t = true then 1 else 0)))
    (if ro (M 70) n t = true then y_ps M (4 * t + 3) (t + 1) (tm (M 70) n (t + 1)) (fx_up (fx_up rd (2 * t) (tf (M 70) n t)) (2 * t + 1) (ts (M 70) n t)) else y_ps M (rs (M 70) n t) t (tm (M 70) n t) rd) := by
  have hu := tm_b (M 70) n t
  have lb := tl_b (M 70) n (4 * t)
  have m0 := mT_ps (M := M) (i := 4 * t) (t := t) (rd := rd) hn h15 hc hu (by omega)
  have sg := evm_isSign (X := X) (a := 97) (b := 108) m0 (by omega) (by omega) (by omega)
  rw [y_ps_r (by omega) (by omega)] at sg
  by_cases hs : 97 ≤ tc (M 70) n (4 * t) ∧ tc (M 70) n (4 * t) ≤ 108
  · rw [if_pos hs] at sg
    have hin : 4 * t < n := by
      apply Classical.byContradiction
      intro q
      unfold tc at hs
      rw [if_neg q] at hs
      omega
    have htl : tl (M 70) n (4 * t) = M 70 (4 * t) - 97 := by unfold tl; rw [if_pos hs]; unfold tc; rw [if_pos hin]
    have hne : tl (M 70) n (4 * t) ≠ -1 := by unfold tl; rw [if_pos hs]; omega
    obtain ⟨c, hcv⟩ := nat_of (show 0 ≤ tl (M 70) n (4 * t) by omega)
    have hc12 : c < 12 := by omega
    have e70 : y_ps M (4 * t) t (tm (M 70) n t) rd 70 = M 70 := y_ps_r (by omega) (by omega)
    have v0 := tst_v0 (T := M 70) (n := n) (t := t)
    have v1 := tst_v1 (T := M 70) (n := n) (t := t)
    rw [show decide (tl (M 70) n (4 * t) ≠ -1) = true by rw [decide_eq_true_eq]; exact hne, Bool.true_and, hcv, show (c : Int).toNat = c by omega] at v0 v1
    have head : ∀ z M', Ev X 139 17 [fx_f 56, .inl (c : Int), fx_u, fx_u, fx_u, fx_u, fx_u] [] (y_ps M (4 * t) t (tm (M 70) n t) rd) (some (.inl z)) M' → Ev X 139 0 [fx_f 56, fx_u, fx_u, fx_u, fx_u, fx_u, fx_u] [] (y_ps M (4 * t) t (tm (M 70) n t) rd) (some (.inl z)) M' := by
      intro z M' k
      have ee : y_ps M (4 * t) t (tm (M 70) n t) rd 70 (y_ps M (4 * t) t (tm (M 70) n t) rd 56 18).toNat - 97 = (c : Int) := by
        rw [y_ps_18, e70, show ((4 * t : Nat) : Int).toNat = 4 * t by omega, ← htl, hcv]
      refine r139_0 sg (r139_4F (by omega) (by omega) (r139_5F (by rw [ee, y_ps_18]; omega) (by rw [ee]; omega) ?_))
      rw [ee]
      exact k
    have s1 : ∀ i, fx_set (y_ps M i t (tm (M 70) n t) rd) 56 (fx_up (y_ps M i t (tm (M 70) n t) rd 56) 18 (y_ps M i t (tm (M 70) n t) rd 56 18 + 1)) = y_ps M (i + 1) t (tm (M 70) n t) rd := fun i => by
      rw [y_ps_18, show (i : Int) + 1 = ((i + 1 : Nat) : Int) by push_cast; rfl, y_ps_at]
    have dn : ∀ i, Ev X 141 0 [fx_f 56, .inl (c : Int)] [] (y_ps M i t (tm (M 70) n t) rd) (some (.inl (if tcd (tm (M 70) n t) c = true then 1 else 0))) (y_ps M i t (tm (M 70) n t) rd) := fun i => evm_canDown y_ps_19 hu hc12
    have ab : ∀ i, Ev X 144 0 [fx_f 56, .inl (c : Int)] [] (y_ps M i t (tm (M 70) n t) rd) (some (.inl (if tca (tm (M 70) n t) c = true then 1 else 0))) (y_ps M i t (tm (M 70) n t) rd) := fun i => evm_canAbove y_ps_19 hu hc12
    have bl : ∀ i, Ev X 145 0 [fx_f 56, .inl (c : Int)] [] (y_ps M i t (tm (M 70) n t) rd) (some (.inl (if tcb (tm (M 70) n t) c = true then 1 else 0))) (y_ps M i t (tm (M 70) n t) rd) := fun i => evm_canBelow y_ps_19 hu hc12
    have m1 := mT_ps (M := M) (i := 4 * t + 1) (t := t) (rd := rd) hn h15 hc hu (by omega)
    have m2 : 4 * t + 1 < n → mT (y_ps M (4 * t + 2) t (tm (M 70) n t) rd) n (4 * t + 2) (tm (M 70) n t) := fun q => mT_ps hn h15 hc hu (by omega)
    by_cases h0 : tst (M 70) n (4 * t) = true
    · have to31 : ∀ z M', Ev X 139 31 [fx_f 56, .inl (c : Int), fx_u, fx_u, fx_u, fx_u, fx_u] [] (y_ps M (4 * t) t (tm (M 70) n t) rd) (some (.inl z)) M' → Ev X 139 0 [fx_f 56, fx_u, fx_u, fx_u, fx_u, fx_u, fx_u] [] (y_ps M (4 * t) t (tm (M 70) n t) rd) (some (.inl z)) M' := by
        intro z M' k
        refine head z M' (r139_17 (dn _) ?_)
        by_cases q1 : tcd (tm (M 70) n t) c = true
        · rw [if_pos q1]; exact r139_20T (by omega) (by omega) k
        · rw [if_neg q1]
          refine r139_20F (by omega) rfl (r139_21 (ab _) ?_)
          by_cases q2 : tca (tm (M 70) n t) c = true
          · rw [if_pos q2]; exact r139_24T (by omega) (by omega) k
          · rw [if_neg q2]
            refine r139_24F (by omega) rfl (r139_25 (bl _) ?_)
            rw [h0, Bool.eq_false_iff.mpr q1, Bool.eq_false_iff.mpr q2, Bool.false_or, Bool.false_or] at v0
            rw [if_pos v0.symm]
            exact r139_28T (by omega) (by omega) k
      have a1 := evm_accepts (X := X) (M := M) (s := 124) (b := tcd (tm (M 70) n t) c) m1 (by omega)
      have a2 := evm_accepts (X := X) (M := M) (s := 94) (b := tca (tm (M 70) n t) c) m1 (by omega)
      have a3 := evm_accepts (X := X) (M := M) (s := 95) (b := tcb (tm (M 70) n t) c) m1 (by omega)
      have fin : ∀ (e : Nat) (w : Int), Ev X 139 0 [fx_f 56, fx_u, fx_u, fx_u, fx_u, fx_u, fx_u] [] (y_ps M (4 * t) t (tm (M 70) n t) rd) (some (.inl (if tst (M 70) n (4 * t + 2) = true then 1 else 0))) (if tst (M 70) n (4 * t + 2) = true then y_ps M (4 * t + 2 + 1) (t + 1) (tm (M 70) n t ||| (2 ^ e ||| 2 ^ w.toNat)) (fx_up (fx_up rd (2 * t) e) (2 * t + 1) w) else y_ps M (4 * t + 2) t (tm (M 70) n t) rd) → tst (M 70) n (4 * t + 1) = true → e = tf (M 70) n t → (tst (M 70) n (4 * t + 2) = true → w = (ts (M 70) n t : Int)) → Ev X 139 0 [fx_f 56, fx_u, fx_u, fx_u, fx_u, fx_u, fx_u] [] (y_ps M (4 * t) t (tm (M 70) n t) rd) (some (.inl (if ro (M 70) n t = true then 1 else 0))) (if ro (M 70) n t = true then y_ps M (4 * t + 3) (t + 1) (tm (M 70) n (t + 1)) (fx_up (fx_up rd (2 * t) (tf (M 70) n t)) (2 * t + 1) (ts (M 70) n t)) else y_ps M (rs (M 70) n t) t (tm (M 70) n t) rd) := by
        intro e w k h1 he hw
        have er : ro (M 70) n t = tst (M 70) n (4 * t + 2) := by unfold ro; rw [h0, h1, Bool.true_and, Bool.true_and]
        rw [er]
        by_cases q : tst (M 70) n (4 * t + 2) = true
        · rw [if_pos q] at k ⊢
          rw [if_pos q] at k ⊢
          rw [hw q, show ((ts (M 70) n t : Nat) : Int).toNat = ts (M 70) n t by omega, he] at k
          rw [tm]
          exact k
        · rw [if_neg q] at k ⊢
          rw [if_neg q] at k ⊢
          rw [show rs (M 70) n t = 4 * t + 2 by unfold rs; rw [if_pos h0, if_pos h1, if_neg q]]
          exact k
      have t60 : t < 16 := by omega
      by_cases b1 : (tcd (tm (M 70) n t) c && decide (tc (M 70) n (4 * t + 1) = ((124 : Nat) : Int))) = true
      · rw [if_pos b1, if_pos b1] at a1
        rw [Bool.and_eq_true, decide_eq_true_eq] at b1
        have b12 : tc (M 70) n (4 * t + 1) = 124 := b1.2
        have hin1 : 4 * t + 1 < n := by
          apply Classical.byContradiction
          intro q
          unfold tc at b12
          rw [if_neg q] at b12
          omega
        have h1 : tst (M 70) n (4 * t + 1) = true := by rw [v1, b12, tgo_124]; exact b1.1
        have sg2 := evm_isSign (X := X) (a := 97) (b := 108) (m2 hin1) (by omega) (by omega) (by omega)
        rw [y_ps_r (by omega) (by omega)] at sg2
        have r := evm_r92 (X := X) (M := M) (rd := rd) (n := n) (t := t) (u := tm (M 70) n t) (e := c) (i := 4 * t + 2) (x1 := (c : Int)) (x2 := 1) (x3 := 0) (x4 := 0) hn h15 hc t60 hu (by omega) (by omega) (by decide) (by decide) (tst (M 70) n (4 * t + 2)) (by
          rw [tst_v2, b12]
          unfold ts
          rw [b12, if_neg (by omega), if_pos rfl]
          simp)
        refine fin c (12 + tl (M 70) n (4 * t + 2)) (to31 _ _ (r139_31 (M1 := y_ps M (4 * t + 1) t (tm (M 70) n t) rd) (by rw [s1]; exact dn _) ?_)) h1 (by unfold tf; rw [b12, if_neg (by omega), hcv]; omega) (fun q => ?_)
        · rw [if_pos rfl] at r
          exact r139_42 a1 (r139_43T (by omega) (by omega) (r139_55T (by decide) (by decide) (r139_70T (by decide) (by decide) (r139_80T (by decide) rfl (r139_86 sg2 r)))))
        · have := tst_2 q
          have lb2 := tl_b (M 70) n (4 * t + 2)
          unfold ts
          rw [b12, if_neg (by omega)]
          omega
      · rw [if_neg b1, if_neg b1] at a1
        have pre : ∀ z M', Ev X 139 46 [fx_f 56, .inl (c : Int), .inl 0, fx_u, fx_u, fx_u, fx_u] [] (y_ps M (4 * t + 1) t (tm (M 70) n t) rd) (some (.inl z)) M' → Ev X 139 0 [fx_f 56, fx_u, fx_u, fx_u, fx_u, fx_u, fx_u] [] (y_ps M (4 * t) t (tm (M 70) n t) rd) (some (.inl z)) M' := fun z M' k => to31 z M' (r139_31 (M1 := y_ps M (4 * t + 1) t (tm (M 70) n t) rd) (by rw [s1]; exact dn _) (r139_42 a1 (r139_43F (by decide) rfl k)))
        by_cases b2 : (tca (tm (M 70) n t) c && decide (tc (M 70) n (4 * t + 1) = ((94 : Nat) : Int))) = true
        · rw [if_pos b2, if_pos b2] at a2
          rw [Bool.and_eq_true, decide_eq_true_eq] at b2
          have b22 : tc (M 70) n (4 * t + 1) = 94 := b2.2
          have hin1 : 4 * t + 1 < n := by
            apply Classical.byContradiction
            intro q
            unfold tc at b22
            rw [if_neg q] at b22
            omega
          have h1 : tst (M 70) n (4 * t + 1) = true := by rw [v1, b22, tgo_94]; exact b2.1
          have sg2 := evm_isSign (X := X) (a := 97) (b := 108) (m2 hin1) (by omega) (by omega) (by omega)
          rw [y_ps_r (by omega) (by omega)] at sg2
          have r := evm_r92 (X := X) (M := M) (rd := rd) (n := n) (t := t) (u := tm (M 70) n t) (e := c) (i := 4 * t + 2) (x1 := (c : Int)) (x2 := 0) (x3 := 1) (x4 := 0) hn h15 hc t60 hu (by omega) (by omega) (by decide) (by decide) (tst (M 70) n (4 * t + 2)) (by
            rw [tst_v2, b22]
            unfold ts
            rw [b22, if_pos rfl, if_neg (by omega), hcv]
            simp)
          refine fin c (tl (M 70) n (4 * t + 2)) (pre _ _ ?_) h1 (by unfold tf; rw [b22, if_neg (by omega), hcv]; omega) (fun q => ?_)
          · rw [if_neg (show ¬ (1 : Int) = 0 by decide)] at r
            exact r139_46 (ab _) (r139_51 a2 (r139_52F (by decide) (by decide) (r139_53F (by decide) rfl (r139_59T (by decide) (by decide) (r139_70F (by decide) rfl (r139_74T (by decide) (by decide) (r139_80T (by decide) rfl (r139_86 sg2 r))))))))
          · have := tst_2 q
            have lb2 := tl_b (M 70) n (4 * t + 2)
            unfold ts
            rw [b22, if_pos rfl]
            omega
        · rw [if_neg b2, if_neg b2] at a2
          have pre2 : ∀ z M', Ev X 139 61 [fx_f 56, .inl (c : Int), .inl 0, .inl 0, fx_u, fx_u, fx_u] [] (y_ps M (4 * t + 1) t (tm (M 70) n t) rd) (some (.inl z)) M' → Ev X 139 0 [fx_f 56, fx_u, fx_u, fx_u, fx_u, fx_u, fx_u] [] (y_ps M (4 * t) t (tm (M 70) n t) rd) (some (.inl z)) M' := fun z M' k => pre z M' (r139_46 (ab _) (r139_51 a2 (r139_52T (by decide) rfl (r139_55F (by decide) rfl (r139_59F (by decide) rfl k)))))
          by_cases b3 : (tcb (tm (M 70) n t) c && decide (tc (M 70) n (4 * t + 1) = ((95 : Nat) : Int))) = true
          · rw [if_pos b3, if_pos b3] at a3
            rw [Bool.and_eq_true, decide_eq_true_eq] at b3
            have b32 : tc (M 70) n (4 * t + 1) = 95 := b3.2
            have hin1 : 4 * t + 1 < n := by
              apply Classical.byContradiction
              intro q
              unfold tc at b32
              rw [if_neg q] at b32
              omega
            have h1 : tst (M 70) n (4 * t + 1) = true := by rw [v1, b32, tgo_95]; exact b3.1
            have sg2 := evm_isSign (X := X) (a := 97) (b := 108) (m2 hin1) (by omega) (by omega) (by omega)
            rw [y_ps_r (by omega) (by omega)] at sg2
            have r := evm_r92 (X := X) (M := M) (rd := rd) (n := n) (t := t) (u := tm (M 70) n t) (e := 12 + c) (i := 4 * t + 2) (x1 := (c : Int)) (x2 := 0) (x3 := 0) (x4 := 1) hn h15 hc t60 hu (by omega) (by omega) (by decide) (by decide) (tst (M 70) n (4 * t + 2)) (by
              rw [tst_v2, b32]
              unfold ts
              rw [b32, if_neg (by omega), if_pos rfl, hcv]
              simp)
            refine fin (12 + c) (12 + tl (M 70) n (4 * t + 2)) (pre2 _ _ ?_) h1 (by unfold tf; rw [b32, if_pos rfl, hcv]; omega) (fun q => ?_)
            · rw [if_pos rfl] at r
              rw [show ((12 + c : Nat) : Int) = 12 + (c : Int) by push_cast; rfl] at r ⊢
              exact r139_61 (bl _) (r139_66 a3 (r139_67F (by decide) (by decide) (r139_68F (by decide) rfl (r139_74F (by decide) rfl (r139_76T (by decide) (by decide) (r139_80F (by decide) (by decide) (r139_82 sg2 r)))))))
            · have := tst_2 q
              have lb2 := tl_b (M 70) n (4 * t + 2)
              unfold ts
              rw [b32, if_neg (by omega)]
              omega
          · rw [if_neg b3, if_neg b3] at a3
            have f1 : tst (M 70) n (4 * t + 1) = false := by
              rw [v1]
              unfold tgo
              rw [Bool.and_comm (decide (tc (M 70) n (4 * t + 1) = 124)), Bool.and_comm (decide (tc (M 70) n (4 * t + 1) = 94)), Bool.and_comm (decide (tc (M 70) n (4 * t + 1) = 95))]
              have c1 := Bool.eq_false_iff.mpr b1
              have c2 := Bool.eq_false_iff.mpr b2
              have c3 := Bool.eq_false_iff.mpr b3
              rw [show (tcd (tm (M 70) n t) c && decide (tc (M 70) n (4 * t + 1) = 124)) = false from c1, show (tca (tm (M 70) n t) c && decide (tc (M 70) n (4 * t + 1) = 94)) = false from c2, show (tcb (tm (M 70) n t) c && decide (tc (M 70) n (4 * t + 1) = 95)) = false from c3]
              rfl
            rw [if_neg (by unfold ro; rw [f1]; simp), if_neg (by unfold ro; rw [f1]; simp), show rs (M 70) n t = 4 * t + 1 by unfold rs; rw [if_pos h0, f1, if_neg (by simp)]]
            exact pre2 _ _ (r139_61 (bl _) (r139_66 a3 (r139_67T (by decide) rfl (r139_70F (by decide) rfl (r139_74F (by decide) rfl (r139_76F (by decide) rfl r139_78))))))
    · have f0 := Bool.eq_false_iff.mpr h0
      rw [f0] at v0
      have q1 : tcd (tm (M 70) n t) c = false := by cases q : tcd (tm (M 70) n t) c; rfl; rw [q] at v0; simp at v0
      have q2 : tca (tm (M 70) n t) c = false := by cases q : tca (tm (M 70) n t) c; rfl; rw [q, q1] at v0; simp at v0
      have q3 : tcb (tm (M 70) n t) c = false := by cases q : tcb (tm (M 70) n t) c; rfl; rw [q, q1, q2] at v0; simp at v0
      have d1 := dn (4 * t)
      have d2 := ab (4 * t)
      have d3 := bl (4 * t)
      rw [q1, if_neg (by simp)] at d1
      rw [q2, if_neg (by simp)] at d2
      rw [q3, if_neg (by simp)] at d3
      rw [if_neg (by unfold ro; rw [f0]; simp), if_neg (by unfold ro; rw [f0]; simp), show rs (M 70) n t = 4 * t by unfold rs; rw [f0, if_neg (by simp)]]
      exact head _ _ (r139_17 d1 (r139_20F (by omega) rfl (r139_21 d2 (r139_24F (by omega) rfl (r139_25 d3 (r139_28F (by omega) rfl r139_29))))))
  · have hne : tl (M 70) n (4 * t) = -1 := by unfold tl; rw [if_neg hs]
    have h0 : tst (M 70) n (4 * t) = false := by rw [tst_v0, hne]; rfl
    rw [if_neg hs] at sg
    rw [if_neg (by unfold ro; rw [h0]; simp), if_neg (by unfold ro; rw [h0]; simp), show rs (M 70) n t = 4 * t by unfold rs; rw [h0, if_neg (by simp)]]
    exact r139_0 sg (r139_4T (by omega) rfl r139_13)
end PAV

section PAU
variable {X : fx_Sc} {M M' : fx_M}
/-- the other end of a stroke -/
theorem evm_r92 {n t u e i : Nat} {rd : Nat → Int} {x1 x2 x3 x4 : Int} (hn : n ≤ 60) (h15 : M 56 15 = (n : Int)) (hc : ∀ k, k < n → 33 ≤ M 70 k ∧ M 70 k ≤ 126) (ht : t < 16) (hu : u < 2 ^ 24) (he : e < 24) (hi : i < 60) (h2 : pR x2) (h3 : pR x3) (b : Bool)
    (hb : b = (decide (tl (M 70) n i ≠ -1) && (un u (if x3 = 0 then 12 + tl (M 70) n i else tl (M 70) n i).toNat && (decide (x2 ≠ 0) || decide ((e : Int) < (if x3 = 0 then 12 + tl (M 70) n i else tl (M 70) n i)))))) :
    Ev X 139 92 [fx_f 56, .inl x1, .inl x2, .inl x3, .inl x4, .inl (e : Int), fx_u] [.inl (if 97 ≤ tc (M 70) n i ∧ tc (M 70) n i ≤ 108 then 1 else 0)] (y_ps M i t u rd) (some (.inl (if b = true then 1 else 0)))
      (if b = true then y_ps M (i + 1) (t + 1) (u ||| (2 ^ e ||| 2 ^ (if x3 = 0 then 12 + tl (M 70) n i else tl (M 70) n i).toNat)) (fx_up (fx_up rd (2 * t) e) (2 * t + 1) (if x3 = 0 then 12 + tl (M 70) n i else tl (M 70) n i)) else y_ps M i t u rd) := by
  have lb := tl_b (M 70) n i
  by_cases hs : 97 ≤ tc (M 70) n i ∧ tc (M 70) n i ≤ 108
  · have hin : i < n := by
      apply Classical.byContradiction
      intro q
      unfold tc at hs
      rw [if_neg q] at hs
      omega
    have htl : tl (M 70) n i = M 70 i - 97 := by unfold tl; rw [if_pos hs]; unfold tc; rw [if_pos hin]
    have hne : tl (M 70) n i ≠ -1 := by unfold tl; rw [if_pos hs]; omega
    rw [if_pos hs]
    have ei : (i : Int).toNat = i := by omega
    have e70 : y_ps M i t u rd 70 = M 70 := y_ps_r (by omega) (by omega)
    rw [show decide (tl (M 70) n i ≠ -1) = true by rw [decide_eq_true_eq]; exact hne, Bool.true_and] at hb
    refine r139_92F (by omega) (by omega) ?_
    -- the other end
    have tail : ∀ e2 : Nat, e2 < 24 → (if x3 = 0 then 12 + tl (M 70) n i else tl (M 70) n i) = (e2 : Int) → Ev X 139 111 [fx_f 56, .inl x1, .inl x2, .inl x3, .inl x4, .inl (e : Int), .inl (e2 : Int)] [] (y_ps M i t u rd) (some (.inl (if b = true then 1 else 0)))
        (if b = true then y_ps M (i + 1) (t + 1) (u ||| (2 ^ e ||| 2 ^ (if x3 = 0 then 12 + tl (M 70) n i else tl (M 70) n i).toNat)) (fx_up (fx_up rd (2 * t) e) (2 * t + 1) (if x3 = 0 then 12 + tl (M 70) n i else tl (M 70) n i)) else y_ps M i t u rd) := by
      intro e2 he2 hv
      rw [hv] at hb ⊢
      rw [show (e2 : Int).toNat = e2 by omega] at hb ⊢
      refine r139_111 (evm_isUnused y_ps_19 hu he2) ?_
      by_cases q1 : un u e2 = true
      · rw [if_pos q1]
        rw [q1, Bool.true_and] at hb
        refine r139_114F (by omega) (by omega) ?_
        by_cases q2 : x2 = 0
        · refine r139_115F h2 q2 ?_
          rw [show decide (x2 ≠ 0) = false by rw [decide_eq_false_iff_not]; omega, Bool.false_or] at hb
          by_cases q3 : (e : Int) < (e2 : Int)
          · have : b = true := by rw [hb, decide_eq_true_eq]; exact q3
            rw [if_pos this, if_pos this]
            exact r139_117T (by omega) q3 (evm_r122 ht hu he he2)
          · have : ¬ b = true := by rw [hb, decide_eq_true_eq]; exact q3
            rw [if_neg this, if_neg this]
            exact r139_117F (by omega) (by omega) r139_120
        · have : b = true := by rw [hb, Bool.or_eq_true, decide_eq_true_eq]; exact Or.inl q2
          rw [if_pos this, if_pos this]
          exact r139_115T h2 q2 (evm_r122 ht hu he he2)
      · have : ¬ b = true := by rw [hb, Bool.eq_false_iff.mpr q1]; simp
        rw [if_neg q1, if_neg this, if_neg this]
        exact r139_114T (by omega) rfl r139_120
    by_cases q : x3 = 0
    · refine r139_93T (by rw [y_ps_18]; omega) q ?_
      rw [y_ps_18, ei, e70, ← htl]
      have := tail (12 + tl (M 70) n i).toNat (by omega) (by rw [if_pos q]; omega)
      rw [show (((12 + tl (M 70) n i).toNat : Nat) : Int) = tl (M 70) n i + 12 by omega] at this
      exact r139_104F (by omega) (by omega) this
    · refine r139_93F (by rw [y_ps_18]; omega) q ?_
      rw [y_ps_18, ei, e70, ← htl]
      have := tail (tl (M 70) n i).toNat (by omega) (by rw [if_neg q]; omega)
      rw [show (((tl (M 70) n i).toNat : Nat) : Int) = tl (M 70) n i + 0 by omega] at this
      exact r139_102F (by omega) (by omega) this
  · have hne : tl (M 70) n i = -1 := by unfold tl; rw [if_neg hs]
    have : ¬ b = true := by rw [hb, hne]; simp
    rw [if_neg hs, if_neg this, if_neg this]
    exact r139_92T (by omega) rfl r139_107
end PAU

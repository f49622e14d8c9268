section PAF
variable {X : fx_Sc} {M M' : fx_M}
def rdOK (T : Nat → Int) (n t : Nat) (rd : Nat → Int) : Prop := ∀ k, k < t → rd (2 * k) = (tf T n k : Int) ∧ rd (2 * k + 1) = (ts T n k : Int)
theorem rdOK_s {T : Nat → Int} {n t : Nat} {rd : Nat → Int} (h : rdOK T n t rd) : rdOK T n (t + 1) (fx_up (fx_up rd (2 * t) (tf T n t)) (2 * t + 1) (ts T n t)) := by
  intro k hk
  by_cases q : k = t
  · subst q
    exact ⟨by rw [fx_upn _ _ (by omega), fx_upk], by rw [fx_upk]⟩
  · obtain ⟨h1, h2⟩ := h k (by omega)
    exact ⟨by rw [fx_upn _ _ (by omega), fx_upn _ _ (by omega)]; exact h1, by rw [fx_upn _ _ (by omega), fx_upn _ _ (by omega)]; exact h2⟩
/-- behind a stroke that was read -/
theorem evm_faultL {n f : Nat} (hn : n ≤ 60) (h15 : M 56 15 = (n : Int)) (hc : ∀ k, k < n → 33 ≤ M 70 k ∧ M 70 k ≤ 126) (hf : f ≤ n) (hs : tst (M 70) n f = false) (ho : ∀ i, i < f → tst (M 70) n i = true) : ∀ (d t : Nat) (rd : Nat → Int), 4 * t + 3 + d = 64 → 4 * t + 3 ≤ f → rdOK (M 70) n (t + 1) rd →
    ∃ (j t' u' : Nat) (rd' : Nat → Int), Ev X 138 12 [fx_f 56, .inl 1] [] (y_ps M (4 * t + 3) (t + 1) (tm (M 70) n (t + 1)) rd) (some (.inl (if f = n ∧ n % 4 = 3 then -1 else (f : Int)))) (y_ps M j t' u' rd') ∧ (f = n ∧ n % 4 = 3 → 4 * t' = n + 1 ∧ rdOK (M 70) n t' rd') := by
  intro d
  induction d using Nat.strongRecOn with
  | ind d ih =>
    intro t rd hd ht hr
    have e15 : y_ps M (4 * t + 3) (t + 1) (tm (M 70) n (t + 1)) rd 56 15 = (n : Int) := by rw [y_ps_k (by omega) (by omega) (by omega)]; exact h15
    have hro : ∀ k, k < t + 1 → ro (M 70) n k = true := fun k hk => by
      unfold ro
      rw [ho _ (by omega), ho _ (by omega), ho _ (by omega)]; rfl
    by_cases hend : n ≤ 4 * t + 3
    · have : f = n := by omega
      have h3 : n = 4 * t + 3 := by omega
      refine ⟨4 * t + 3, t + 1, tm (M 70) n (t + 1), rd, ?_, fun _ => ⟨by omega, hr⟩⟩
      rw [if_pos ⟨this, by omega⟩]
      exact r138_12F (by decide) (by decide) (r138_14T (by rw [y_ps_18, e15]; omega) (by rw [y_ps_18, e15]; omega) (r138_33F (by decide) (by decide) r138_35))
    · have mW := mT_ps (M := M) (i := 4 * t + 3) (t := t + 1) (rd := rd) hn h15 hc (tm_b (M 70) n (t + 1)) (by omega)
      have mo := evm_isMore (X := X) (M := y_ps M (4 * t + 3) (t + 1) (tm (M 70) n (t + 1)) rd) y_ps_19 (tm_b (M 70) n (t + 1))
      have eb : (if 2 ≤ pb_c (un (tm (M 70) n (t + 1))) 24 then (1 : Int) else 0) = (if (decide (tm (M 70) n (t + 1) ≠ 16777215)) = true then 1 else 0) := by
        by_cases q : tm (M 70) n (t + 1) = 16777215
        · rw [if_neg (fun a => (more_iff hro).mp a q), if_neg (by simp [q])]
        · rw [if_pos ((more_iff hro).mpr q), if_pos (by simp [q])]
      rw [eb] at mo
      have ac := evm_accepts (X := X) (M := M) (s := 59) (b := decide (tm (M 70) n (t + 1) ≠ 16777215)) mW (by omega)
      have ev3 : (decide (tm (M 70) n (t + 1) ≠ 16777215) && decide (tc (M 70) n (4 * t + 3) = ((59 : Nat) : Int))) = tst (M 70) n (4 * t + 3) := by rw [tst_v3, Bool.and_comm]; rfl
      rw [ev3] at ac
      by_cases h3 : tst (M 70) n (4 * t + 3) = true
      · rw [if_pos h3, if_pos h3] at ac
        have hlt : 4 * t + 4 ≤ f := by
          apply Classical.byContradiction
          intro q
          have : f = 4 * t + 3 := by omega
          rw [this, h3] at hs
          cases hs
        have rdg := evm_reads (X := X) (M := M) (n := n) (t := t + 1) (rd := rd) hn h15 hc (by omega)
        have i4 : 4 * (t + 1) = 4 * t + 3 + 1 := by omega
        by_cases hr2 : ro (M 70) n (t + 1) = true
        · rw [if_pos hr2, if_pos hr2] at rdg
          have h7 : 4 * (t + 1) + 3 ≤ f := by
            have hr3 := hr2
            unfold ro at hr3
            rw [Bool.and_eq_true, Bool.and_eq_true] at hr3
            apply Classical.byContradiction
            intro q
            have : f = 4 * (t + 1) ∨ f = 4 * (t + 1) + 1 ∨ f = 4 * (t + 1) + 2 := by omega
            rcases this with e | e | e
            · rw [e, hr3.1] at hs; cases hs
            · rw [e, hr3.2.1] at hs; cases hs
            · rw [e, hr3.2.2] at hs; cases hs
          obtain ⟨j, t', u', rd', k1, k2⟩ := ih (d - 4) (by omega) (t + 1) _ (by omega) h7 (rdOK_s hr)
          refine ⟨j, t', u', rd', ?_, k2⟩
          rw [i4] at rdg k1
          exact r138_12F (by decide) (by decide) (r138_14F (by rw [y_ps_18, e15]; omega) (by rw [y_ps_18, e15]; omega) (r138_19 mo (r138_23 ac (r138_24F (by decide) (by decide) (r138_25 rdg (r138_27F (by decide) (by decide) (r138_28 k1)))))))
        · rw [if_neg hr2, if_neg hr2] at rdg
          have ers : rs (M 70) n (t + 1) = f := by
            have hx : ∀ i, tst (M 70) n i = true → i ≤ f → i + 1 ≤ f := by
              intro i h1 h2
              apply Classical.byContradiction
              intro q
              have : f = i := by omega
              rw [this, h1] at hs
              cases hs
            have hy : ∀ i, ¬ tst (M 70) n i = true → i ≤ f → i = f := by
              intro i h1 h2
              apply Classical.byContradiction
              intro q
              exact h1 (ho i (by omega))
            unfold rs
            by_cases g0 : tst (M 70) n (4 * (t + 1)) = true
            · rw [if_pos g0]
              have f1 := hx _ g0 (by omega)
              by_cases g1 : tst (M 70) n (4 * (t + 1) + 1) = true
              · rw [if_pos g1]
                have f2 := hx _ g1 f1
                have g2 : ¬ tst (M 70) n (4 * (t + 1) + 2) = true := fun q => hr2 (by unfold ro; rw [g0, g1, q]; rfl)
                rw [if_neg g2]
                exact hy _ g2 f2
              · rw [if_neg g1]
                exact hy _ g1 f1
            · rw [if_neg g0]
              exact hy _ g0 (by omega)
          have hlt2 : f < 4 * (t + 1) + 3 := by
            apply Classical.byContradiction
            intro q
            exact hr2 (by unfold ro; rw [ho _ (by omega), ho _ (by omega), ho _ (by omega)]; rfl)
          have hne : ¬ (f = n ∧ n % 4 = 3) := by omega
          refine ⟨f, t + 1, tm (M 70) n (t + 1), rd, ?_, fun q => absurd q hne⟩
          rw [if_neg hne]
          rw [i4] at rdg
          rw [ers] at rdg
          have w := r138_37 (X := X) (M := y_ps M f (t + 1) (tm (M 70) n (t + 1)) rd) (x1 := 0)
          rw [y_ps_18] at w
          exact r138_12F (by decide) (by decide) (r138_14F (by rw [y_ps_18, e15]; omega) (by rw [y_ps_18, e15]; omega) (r138_19 mo (r138_23 ac (r138_24F (by decide) (by decide) (r138_25 rdg (r138_27T (by decide) rfl (r138_30 (r138_12T (by decide) rfl (r138_33T (by decide) rfl w)))))))))
      · rw [if_neg h3, if_neg h3] at ac
        have : f = 4 * t + 3 := by
          apply Classical.byContradiction
          intro q
          exact h3 (ho _ (by omega))
        have hne : ¬ (f = n ∧ n % 4 = 3) := by omega
        refine ⟨4 * t + 3, t + 1, tm (M 70) n (t + 1), rd, ?_, fun q => absurd q hne⟩
        rw [if_neg hne]
        have w := r138_37 (X := X) (M := y_ps M (4 * t + 3) (t + 1) (tm (M 70) n (t + 1)) rd) (x1 := 0)
        rw [y_ps_18, ← this] at w
        rw [← this] at mo ac e15 ⊢
        exact r138_12F (by decide) (by decide) (r138_14F (by rw [y_ps_18, e15]; omega) (by rw [y_ps_18, e15]; omega) (r138_19 mo (r138_23 ac (r138_24T (by decide) rfl (r138_30 (r138_12T (by decide) rfl (r138_33T (by decide) rfl w)))))))
end PAF

section PAG
variable {X : fx_Sc} {M M' : fx_M}
theorem evm_faultOf {n f : Nat} (hn : n ≤ 60) (h15 : M 56 15 = (n : Int)) (hc : ∀ k, k < n → 33 ≤ M 70 k ∧ M 70 k ≤ 126) (hf : f ≤ n) (hs : tst (M 70) n f = false) (ho : ∀ i, i < f → tst (M 70) n i = true) :
    ∃ (j t' u' : Nat) (rd' : Nat → Int), Ev X 138 0 [fx_f 56, fx_u] [] M (some (.inl (if f = n ∧ n % 4 = 3 then -1 else (f : Int)))) (y_ps M j t' u' rd') ∧ (f = n ∧ n % 4 = 3 → 4 * t' = n + 1 ∧ rdOK (M 70) n t' rd') := by
  have e0 : fx_set (fx_set (fx_set M 56 (fx_up (M 56) 18 0)) 56 (fx_up ((fx_set M 56 (fx_up (M 56) 18 0)) 56) 17 0)) 56 (fx_up ((fx_set (fx_set M 56 (fx_up (M 56) 18 0)) 56 (fx_up ((fx_set M 56 (fx_up (M 56) 18 0)) 56) 17 0)) 56) 19 0) = y_ps M (4 * 0) 0 (tm (M 70) n 0) (M 69) := by
    rw [fx_ss, fx_ss, fx_sk, fx_sk]
    unfold y_ps
    rw [fx_self]
    rfl
  have rdg := evm_reads (X := X) (M := M) (n := n) (t := 0) (rd := M 69) hn h15 hc (by omega)
  have e15 : ∀ (i t u : Nat) (rd : Nat → Int), y_ps M i t u rd 56 15 = (n : Int) := fun i t u rd => by rw [y_ps_k (by omega) (by omega) (by omega)]; exact h15
  by_cases hr2 : ro (M 70) n 0 = true
  · rw [if_pos hr2, if_pos hr2] at rdg
    have h7 : 4 * 0 + 3 ≤ f := by
      have hr3 := hr2
      unfold ro at hr3
      rw [Bool.and_eq_true, Bool.and_eq_true] at hr3
      apply Classical.byContradiction
      intro q
      have : f = 4 * 0 ∨ f = 4 * 0 + 1 ∨ f = 4 * 0 + 2 := by omega
      rcases this with e | e | e
      · rw [e, hr3.1] at hs; cases hs
      · rw [e, hr3.2.1] at hs; cases hs
      · rw [e, hr3.2.2] at hs; cases hs
    obtain ⟨j, t', u', rd', k1, k2⟩ := evm_faultL (X := X) hn h15 hc hf hs ho 61 0 _ (by omega) h7 (rdOK_s (rd := M 69) (fun k hk => by omega))
    refine ⟨j, t', u', rd', ?_, k2⟩
    exact r138_0 (by rw [e0]; exact rdg) (r138_11 k1)
  · rw [if_neg hr2, if_neg hr2] at rdg
    have ers : rs (M 70) n 0 = f := by
      have hx : ∀ i, tst (M 70) n i = true → i ≤ f → i + 1 ≤ f := by
        intro i h1 h2
        apply Classical.byContradiction
        intro q
        have : f = i := by omega
        rw [this, h1] at hs
        cases hs
      have hy : ∀ i, ¬ tst (M 70) n i = true → i ≤ f → i = f := by
        intro i h1 h2
        apply Classical.byContradiction
        intro q
        exact h1 (ho i (by omega))
      unfold rs
      by_cases g0 : tst (M 70) n (4 * 0) = true
      · rw [if_pos g0]
        have f1 := hx _ g0 (by omega)
        by_cases g1 : tst (M 70) n (4 * 0 + 1) = true
        · rw [if_pos g1]
          have f2 := hx _ g1 f1
          have g2 : ¬ tst (M 70) n (4 * 0 + 2) = true := fun q => hr2 (by unfold ro; rw [g0, g1, q]; rfl)
          rw [if_neg g2]
          exact hy _ g2 f2
        · rw [if_neg g1]
          exact hy _ g1 f1
      · rw [if_neg g0]
        exact hy _ g0 (by omega)
    have hlt2 : f < 4 * 0 + 3 := by
      apply Classical.byContradiction
      intro q
      exact hr2 (by unfold ro; rw [ho _ (by omega), ho _ (by omega), ho _ (by omega)]; rfl)
    have hne : ¬ (f = n ∧ n % 4 = 3) := by omega
    refine ⟨f, 0, tm (M 70) n 0, M 69, ?_, fun q => absurd q hne⟩
    rw [if_neg hne]
    rw [ers] at rdg
    have w := r138_37 (X := X) (M := y_ps M f 0 (tm (M 70) n 0) (M 69)) (x1 := 0)
    rw [y_ps_18] at w
    exact r138_0 (by rw [e0]; exact rdg) (r138_11 (r138_12T (by decide) rfl (r138_33T (by decide) rfl w)))
theorem tc_x {T T' : Nat → Int} {n : Nat} (h : ∀ k, k < n → T k = T' k) (i : Nat) : tc T n i = tc T' n i := by
  unfold tc
  by_cases q : i < n
  · rw [if_pos q, if_pos q, h i q]
  · rw [if_neg q, if_neg q]
theorem tl_x {T T' : Nat → Int} {n : Nat} (h : ∀ k, k < n → T k = T' k) (i : Nat) : tl T n i = tl T' n i := by unfold tl; rw [tc_x h]
theorem tf_x {T T' : Nat → Int} {n : Nat} (h : ∀ k, k < n → T k = T' k) (t : Nat) : tf T n t = tf T' n t := by unfold tf; rw [tc_x h, tl_x h]
theorem ts_x {T T' : Nat → Int} {n : Nat} (h : ∀ k, k < n → T k = T' k) (t : Nat) : ts T n t = ts T' n t := by unfold ts; rw [tc_x h, tl_x h]
theorem tm_x {T T' : Nat → Int} {n : Nat} (h : ∀ k, k < n → T k = T' k) (t : Nat) : tm T n t = tm T' n t := by
  induction t with
  | zero => rfl
  | succ t ih => rw [tm, tm, ih, tf_x h, ts_x h]
theorem tst_x {T T' : Nat → Int} {n : Nat} (h : ∀ k, k < n → T k = T' k) (c : Nat) : tst T n c = tst T' n c := by
  unfold tst
  rw [tl_x h c, tl_x h (c - 1), tl_x h (c - 2), tc_x h c, tc_x h (c - 1), tm_x h, tm_x h (c / 4 + 1), ts_x h]
/-- both find the same fault -/
theorem fault_D (hI : cI M) : ∃ n f : Nat, pT M n ∧ f ≤ n ∧ (∀ i, i < f → tst (M 18) n i = true) ∧ (∀ k, k < n → M 18 k = M 70 k) ∧ Ev X 58 0 [fx_f 17, fx_u, fx_u] [] M (some (.inl (if f = n ∧ n % 4 = 3 then -6 else (f : Int)))) M ∧
    (∀ MC : fx_M, MC 56 15 = M 56 15 → MC 70 = M 70 → ∃ (j t' u' : Nat) (rd' : Nat → Int), Ev X 138 0 [fx_f 56, fx_u] [] MC (some (.inl (if f = n ∧ n % 4 = 3 then -1 else (f : Int)))) (y_ps MC j t' u' rd') ∧ (f = n ∧ n % 4 = 3 → 4 * t' = n + 1 ∧ rdOK (M 18) n t' rd')) := by
  obtain ⟨n, p1, p2, p3, p4⟩ := hI.2.2.2
  obtain ⟨f, f1, f2, f3⟩ := tf_ex (M 18) n
  have hT : pT M n := ⟨p1, p2, fun k hk => (p4 k hk).2⟩
  have hx : ∀ k, k < n → M 18 k = M 70 k := fun k hk => (p4 k hk).1
  refine ⟨n, f, hT, f1, f3, hx, ev_firstFault hT f1 f2 f3, fun MC e1 e2 => ?_⟩
  obtain ⟨j, t', u', rd', k1, k2⟩ := evm_faultOf (X := X) (M := MC) (n := n) (f := f) p1 (by rw [e1]; exact p3) (by rw [e2]; exact fun k hk => by rw [← hx k hk]; exact (p4 k hk).2) f1 (by rw [e2, ← tst_x hx]; exact f2) (fun i hi => by rw [e2, ← tst_x hx]; exact f3 i hi)
  refine ⟨j, t', u', rd', k1, fun q => ⟨(k2 q).1, fun k hk => ?_⟩⟩
  have := (k2 q).2 k hk
  rw [e2] at this
  rw [tf_x hx, ts_x hx]
  exact this
theorem frM_ps {j t u : Nat} {rd : Nat → Int} : frM (y_ps M j t u rd) M := ⟨fun q hq => y_ps_r (by omega) (by omega), fun k _ h1 h2 h3 => y_ps_k h1 h2 h3⟩
theorem op_fault (hI : cI M) : OP X M 33 178 [] [fx_u] := by
  obtain ⟨n, f, hT, f1, f3, hx, kc, km⟩ := fault_D (X := X) hI
  obtain ⟨j, t', u', rd', k1, -⟩ := km M rfl rfl
  have := hT.1
  by_cases q : f = n ∧ n % 4 = 3
  · rw [if_pos q] at kc k1
    exact OP_read (z := -6) hI (r33_0 kc r33_3) (frC_r M) (r178_0 k1 (r178_2F (by decide) (by decide) r178_5)) frM_ps (by decide)
  · rw [if_neg q] at kc k1
    exact OP_read (z := (f : Int)) hI (r33_0 kc r33_3) (frC_r M) (r178_0 k1 (r178_2T (by omega) (by omega) r178_7)) frM_ps (by constructor <;> omega)
end PAG

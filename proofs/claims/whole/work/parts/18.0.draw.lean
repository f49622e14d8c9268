/-! drawing: the strokes of a text laid on a panel -/
def z_dr (O T : Nat → Int) (n p : Nat) : Nat → Nat → Int
  | 0 => O
  | t + 1 => z_lnk (z_dr O T n p t) p (tf T n t) (ts T n t)
def y_dr (s T : Nat → Int) (n p : Nat) : Nat → Nat → Int
  | 0 => s
  | t + 1 => y_lnk (y_dr s T n p t) p (tf T n t) (ts T n t)
theorem z_dr_D {O T : Nat → Int} {n p : Nat} (hr : ∀ k, k < 144 → -1 ≤ O k ∧ O k < 24) (hi : z_inv O) (he : ∀ e, e < 24 → O (24 * p + e) = -1) : ∀ t, (∀ k, k < t → ro T n k = true) →
    (∀ k, k < 144 → -1 ≤ z_dr O T n p t k ∧ z_dr O T n p t k < 24) ∧ z_inv (z_dr O T n p t) ∧ ∀ e, e < 24 → decide (z_dr O T n p t (24 * p + e) ≠ -1) = (tm T n t).testBit e := by
  intro t
  induction t with
  | zero =>
    intro _
    refine ⟨hr, hi, fun e h => ?_⟩
    rw [z_dr, he e h, tm, Nat.zero_testBit]
    rfl
  | succ t ih =>
    intro ho
    obtain ⟨g1, g2, g3⟩ := ih fun k hk => ho k (by omega)
    obtain ⟨d1, d2, d3⟩ := ro_D (ho t (by omega))
    have b1 := tf_b T n t
    have b2 := ts_b T n t
    have free : ∀ e, e < 24 → (tm T n t).testBit e = false → z_dr O T n p t (24 * p + e) = -1 := by
      intro e h q
      have := g3 e h
      rw [q, decide_eq_false_iff_not] at this
      exact Classical.byContradiction fun a => this a
    refine ⟨z_lnk_rg g1 b1 b2, z_inv_lnk g2 b1 b2 d1 (free _ b1 d2) (free _ b2 d3), fun e h => ?_⟩
    show decide ((if 24 * p + e = 24 * p + ts T n t then ((tf T n t : Nat) : Int) else if 24 * p + e = 24 * p + tf T n t then ((ts T n t : Nat) : Int) else z_dr O T n p t (24 * p + e)) ≠ -1) = _
    rw [tm, Nat.testBit_or, Nat.testBit_or, Nat.testBit_two_pow, Nat.testBit_two_pow, ← g3 e h]
    by_cases q1 : e = ts T n t
    · rw [if_pos (by omega), decide_eq_true (show ts T n t = e by omega), Bool.or_true, Bool.or_true, decide_eq_true_eq]
      omega
    · rw [if_neg (by omega), decide_eq_false (show ¬ ts T n t = e by omega), Bool.or_false]
      by_cases q2 : e = tf T n t
      · rw [if_pos (by omega), decide_eq_true (show tf T n t = e by omega), Bool.or_true, decide_eq_true_eq]
        omega
      · rw [if_neg (by omega), decide_eq_false (show ¬ tf T n t = e by omega), Bool.or_false]
theorem y_dr_z {O s T : Nat → Int} {n p : Nat} (hp : p < 6) (h : ∀ k, k < 144 → s k = O k + 1) : ∀ t, (∀ k, k < 144 → y_dr s T n p t k = z_dr O T n p t k + 1) ∧ ∀ k, 144 ≤ k → y_dr s T n p t k = s k := by
  intro t
  induction t with
  | zero => exact ⟨h, fun _ _ => rfl⟩
  | succ t ih =>
    have b1 := tf_b T n t
    have b2 := ts_b T n t
    refine ⟨fun k hk => ?_, fun k hk => ?_⟩
    · show (if k = 24 * p + ts T n t then ((tf T n t : Nat) : Int) + 1 else if k = 24 * p + tf T n t then ((ts T n t : Nat) : Int) + 1 else y_dr s T n p t k) = (if k = 24 * p + ts T n t then ((tf T n t : Nat) : Int) else if k = 24 * p + tf T n t then ((ts T n t : Nat) : Int) else z_dr O T n p t k) + 1
      have := ih.1 k hk
      split
      · rfl
      · split
        · rfl
        · exact this
    · show (if k = 24 * p + ts T n t then ((tf T n t : Nat) : Int) + 1 else if k = 24 * p + tf T n t then ((ts T n t : Nat) : Int) + 1 else y_dr s T n p t k) = s k
      rw [if_neg (by omega), if_neg (by omega)]
      exact ih.2 k hk
section DRW
variable {X : fx_Sc} {M M' : fx_M}
theorem ev_drawOnto {n p m : Nat} (h : pT M n) (hp : p < 6) (hm : 4 * m = n + 1) (ho : ∀ i, i < n → tst (M 18) n i = true) : Ev X 69 0 [fx_f 17, fx_f 1, .inl (p : Int), fx_u] [] M none (fx_set M 2 (z_dr (M 2) (M 18) n p m)) := by
  have h60 := h.1
  have main : Ev X 69 2 [fx_f 17, fx_f 1, .inl (p : Int), .inl ((4 * 0 : Nat) : Int)] [] (fx_set M 2 (z_dr (M 2) (M 18) n p 0)) none (fx_set M 2 (z_dr (M 2) (M 18) n p m)) := by
    refine Ev.loop m (fun c => [fx_f 17, fx_f 1, .inl (p : Int), .inl ((4 * c : Nat) : Int)]) (fun c => fx_set M 2 (z_dr (M 2) (M 18) n p c)) (fun c hc k => ?_) ?_
    · have e17 : (fx_set M 2 (z_dr (M 2) (M 18) n p c)) 17 = M 17 := fx_sn (by omega)
      have e18 : (fx_set M 2 (z_dr (M 2) (M 18) n p c)) 18 = M 18 := fx_sn (by omega)
      have hT : pT (fx_set M 2 (z_dr (M 2) (M 18) n p c)) n := ⟨h.1, by rw [e17]; exact h.2.1, by rw [e18]; exact h.2.2⟩
      have l0 := tst_0 (ho (4 * c) (by omega))
      have l2 := tst_2 (ho (4 * c + 2) (by omega))
      have f1 := ev_firstEnd (X := X) (t := c) hT (by omega) (by rw [e18]; exact l0)
      have f2 := ev_secondEnd (X := X) (t := c) hT (by omega) (by rw [e18]; exact l2)
      rw [e18] at f1 f2
      have lk : Ev X 80 0 [fx_f 1, .inl (p : Int), .inl (tf (M 18) n c : Int), .inl (ts (M 18) n c : Int)] [] (fx_set M 2 (z_dr (M 2) (M 18) n p c)) none (fx_set M 2 (z_dr (M 2) (M 18) n p (c + 1))) := by
        refine Ev.mem ?_ (ev_link isS1 hp (tf_b _ _ _) (ts_b _ _ _))
        show fx_set (fx_set M 2 _) 2 (z_lnk ((fx_set M 2 _) 2) p _ _) = _
        rw [fx_ss, fx_sk]
        rfl
      have e4 : ((4 * c : Nat) : Int) + 4 = ((4 * (c + 1) : Nat) : Int) := by push_cast; omega
      refine r69_2F (by rw [e17, h.2.1]; omega) (by rw [e17, h.2.1]; omega) (r69_6 f1 (r69_11 f2 (r69_14 isS1 lk (r69_15 ?_))))
      rw [e4]
      exact k
    · have e17 : (fx_set M 2 (z_dr (M 2) (M 18) n p m)) 17 = M 17 := fx_sn (by omega)
      exact r69_2T (by rw [e17, h.2.1]; omega) (by rw [e17, h.2.1]; omega) r69_17
  rw [show z_dr (M 2) (M 18) n p 0 = M 2 from rfl, fx_self] at main
  exact r69_0 main
/-- the reference joins what it read -/
theorem evm_draws {T rd : Nat → Int} {n p m : Nat} {x2 : Int} (hp : p < 6) (hm : m ≤ 16) (h69 : M 69 = rd) (h17 : M 56 17 = (m : Int)) (hr : rdOK T n m rd) : Ev X 137 22 [fx_f 56, .inl (p : Int), .inl x2, fx_u] [] M (some (.inl (m : Int))) (fx_set (fx_set M 57 (fx_up (y_dr (M 57) T n p m) (144 + p) x2)) 56 (fx_up (M 56) 15 0)) := by
  have main : Ev X 137 24 [fx_f 56, .inl (p : Int), .inl x2, .inl ((0 : Nat) : Int)] [] (fx_set M 57 (y_dr (M 57) T n p 0)) (some (.inl (m : Int))) (fx_set (fx_set M 57 (fx_up (y_dr (M 57) T n p m) (144 + p) x2)) 56 (fx_up (M 56) 15 0)) := by
    refine Ev.loop m (fun c => [fx_f 56, .inl (p : Int), .inl x2, .inl (c : Int)]) (fun c => fx_set M 57 (y_dr (M 57) T n p c)) (fun c hc k => ?_) ?_
    · have e56 : (fx_set M 57 (y_dr (M 57) T n p c)) 56 = M 56 := fx_sn (by omega)
      have e69 : (fx_set M 57 (y_dr (M 57) T n p c)) 69 = rd := by rw [fx_sn (by omega)]; exact h69
      obtain ⟨r1, r2⟩ := hr c hc
      have lk : Ev X 120 0 [fx_f 56, .inl (p : Int), .inl (tf T n c : Int), .inl (ts T n c : Int)] [] (fx_set M 57 (y_dr (M 57) T n p c)) none (fx_set M 57 (y_dr (M 57) T n p (c + 1))) := by
        refine Ev.mem ?_ (evm_joins hp (tf_b _ _ _) (ts_b _ _ _))
        rw [fx_ss, fx_sk]
        rfl
      have i0 : (2 * (c : Int)).toNat = 2 * c := by omega
      have i1 : (2 * (c : Int) + 1).toNat = 2 * c + 1 := by omega
      refine r137_24F (by rw [e56, h17]; omega) (by rw [e56, h17]; omega) (r137_28 (by omega) (by rw [e69, i0, i1, r1, r2]; exact lk) (r137_45 ?_))
      exact k
    · have e56 : (fx_set M 57 (y_dr (M 57) T n p m)) 56 = M 56 := fx_sn (by omega)
      have it : (144 + (p : Int)).toNat = 144 + p := by omega
      refine r137_24T (by rw [e56, h17]; omega) (by rw [e56, h17]; omega) (Ev.mem ?_ (Ev.res ?_ (r137_47 (by omega))))
      · rw [fx_ss, fx_sk, it, fx_sn (by omega)]
      · rw [fx_sk, fx_upn _ _ (by omega), fx_sn (by omega), e56, h17]
  rw [show y_dr (M 57) T n p 0 = M 57 from rfl, fx_self] at main
  exact r137_22 main
theorem op_draw {x1 x2 : Int} (hI : cI M) (h1 : pR x1) (h2 : pR x2) : OP X M 0 137 [.inl x1, .inl x2] [.inl x1, .inl x2, fx_u] := by
  obtain ⟨S1, S2, hA, hO, hH, hi, hi2, hz, hz2⟩ := sD_of hI.1
  by_cases hp : 0 ≤ x1 ∧ x1 < 6
  · obtain ⟨p, rfl⟩ := nat_of hp.1
    have hp6 : p < 6 := by omega
    by_cases hh : 0 ≤ x2 ∧ x2 < 6
    · have c0 : ∀ z M', Ev X 0 10 [fx_f 0, .inl (p : Int), .inl x2] [] M (some (.inl z)) M' → Ev X 0 0 [fx_f 0, .inl (p : Int), .inl x2] [] M (some (.inl z)) M' := fun z M' k => r0_0 (ev_isPanel_y hp) (r0_2T (by omega) (by omega) (r0_5 (ev_isHand_y hh) (r0_7T (by omega) (by omega) k)))
      have m0 : ∀ (M1 : fx_M) z M', Ev X 137 12 [fx_f 56, .inl (p : Int), .inl x2, fx_u] [] M1 (some (.inl z)) M' → Ev X 137 0 [fx_f 56, .inl (p : Int), .inl x2, fx_u] [] M1 (some (.inl z)) M' := fun M1 z M' k => r137_0 (evm_isPanel_y hp) (r137_2T (by omega) (by omega) (r137_5 (evm_in_y (by omega) h2 (by decide) (by decide)) (r137_9T (by omega) (by omega) k)))
      obtain ⟨n, f, hT, f1, f3, hx, kc, km⟩ := fault_D (X := X) hI
      have h60 := hT.1
      by_cases q : f = n ∧ n % 4 = 3
      · rw [if_pos q] at kc
        obtain ⟨n0, a, ha6, rem, recd, fin⟩ := chg_D (X := X) hI
        obtain ⟨m, hm⟩ : ∃ m, 4 * m = n + 1 := ⟨(n + 1) / 4, by omega⟩
        have ho : ∀ i, i < n → tst (M 18) n i = true := fun i hi => f3 i (by omega)
        have hro : ∀ k, k < m → ro (M 18) n k = true := fun k hk => by
          unfold ro
          rw [ho _ (by omega), ho _ (by omega), ho _ (by omega)]; rfl
        have er24 : ∀ e, e < 24 → z_era (M 2) p 24 (24 * p + e) = -1 := fun e he => by
          unfold z_era
          rw [if_pos (by omega)]
        obtain ⟨g1, g2, g3⟩ := z_dr_D (T := M 18) (n := n) (z_era_rg (p := p) S1.2.1) (z_inv_era (p := p) hi) er24 m hro
        obtain ⟨O', hO'⟩ : ∃ O', O' = z_dr (z_era (M 2) p 24) (M 18) n p m := ⟨_, rfl⟩
        obtain ⟨H', hH'⟩ : ∃ H', H' = fx_up (M 3) p x2 := ⟨_, rfl⟩
        rw [← hO'] at g1 g2 g3
        -- the class
        obtain ⟨MB, hMB⟩ : ∃ MB : fx_M, MB = fx_set (fx_set (y_rm M n0 a) 2 (z_era (M 2) p 24)) 3 H' := ⟨_, rfl⟩
        obtain ⟨MC, hMC⟩ : ∃ MC : fx_M, MC = fx_set (fx_set MB 2 O') 17 (fx_up (M 17) 1 0) := ⟨_, rfl⟩
        have B : ∀ r, r ≠ 2 → r ≠ 3 → MB r = y_rm M n0 a r := fun r r2 r3 => by rw [hMB, fx_sn r3, fx_sn r2]
        have C : ∀ r, 4 < r → r ≠ 17 → MC r = y_rm M n0 a r := fun r hr r17 => by rw [hMC, fx_sn r17, fx_sn (by omega), B r (by omega) (by omega)]
        have C2 : MC 2 = O' := by rw [hMC, fx_sn (by omega), fx_sk]
        have C3 : MC 3 = H' := by rw [hMC, fx_sn (by omega), fx_sn (by omega), hMB, fx_sk]
        have C17 : MC 17 = fx_up (M 17) 1 0 := by rw [hMC, fx_sk]
        have e57 : MC 57 = M 57 := by rw [C 57 (by omega) (by omega), y_rm_o ha6 (by omega)]
        have e56 : MC 56 = M 56 := by rw [C 56 (by omega) (by omega), y_rm_o ha6 (by omega)]
        have e70 : MC 70 = M 70 := by rw [C 70 (by omega) (by omega), y_rm_o ha6 (by omega)]
        have b17 : MB 17 = M 17 := by rw [B 17 (by omega) (by omega), y_rm_o ha6 (by omega)]
        have b18 : MB 18 = M 18 := by rw [B 18 (by omega) (by omega), y_rm_o ha6 (by omega)]
        have b2 : MB 2 = z_era (M 2) p 24 := by rw [hMB, fx_sn (by omega), fx_sk]
        have b3 : ∀ i, i < 6 → 0 ≤ M 3 i ∧ M 3 i < 6 := S1.2.2
        have hrg : ∀ i, i < 6 → 0 ≤ H' i ∧ H' i < 6 := fun i hi' => by
          rw [hH']
          show 0 ≤ (if i = p then x2 else M 3 i) ∧ (if i = p then x2 else M 3 i) < 6
          split
          · exact hh
          · exact b3 i hi'
        have SC : pS MC 1 := by
          refine ⟨isS1, ?_, ?_⟩
          · intro k hk
            show -1 ≤ MC 2 k ∧ MC 2 k < 24
            rw [C2]; exact g1 k hk
          · intro k hk
            show 0 ≤ MC 3 k ∧ MC 3 k < 6
            rw [C3]; exact hrg k hk
        have ez : z_str (ph MC 1) p = m := by
          unfold z_str
          have : pb_c (fun e => ph MC 1 (24 * p + e)) 24 = pb_c (fun e => (tm (M 18) n m).testBit e) 24 := pb_c_ext fun e he => by
            rw [← g3 e he, ← C2]
            rfl
          rw [this, tm_c hro]
          omega
        have hc : Ev X 0 0 [fx_f 0, .inl (p : Int), .inl x2] [] M (some (.inl (m : Int))) MC := by
          have dr := ev_drawOnto (X := X) (M := MB) (n := n) (p := p) (m := m) ⟨h60, by rw [b17]; exact hT.2.1, by rw [b18]; exact hT.2.2⟩ hp6 hm (by rw [b18]; exact ho)
          rw [b2, b18, ← hO'] at dr
          have me : Ev X 70 0 [fx_f 17] [] (fx_set MB 2 O') none MC := by
            refine Ev.mem ?_ r70_0
            rw [hMC, fx_sn (by omega), b17]
          have st := ev_strokesIn (X := X) SC hp6
          rw [ez] at st
          refine c0 _ _ (r0_10 kc (r0_13T (by decide) rfl (r0_17 rem (r0_22 (ev_erase isS1 hp6) (r0_26 (Ev.mem ?_ (ev_giveTo isS1 hp6)) (r0_31 dr (r0_37 me (r0_40 st r0_44))))))))
          rw [hMB, hH']
          show fx_set (fx_set (y_rm M n0 a) 2 (z_era (y_rm M n0 a 2) p 24)) 3 (fx_up (fx_set (y_rm M n0 a) 2 _ 3) p x2) = _
          rw [fx_sn (by omega), y_rm_o ha6 (by omega), y_rm_o ha6 (by omega)]
        -- the reference
        obtain ⟨j, t', u', rd', k1, k2⟩ := km MC (by rw [e56]) e70
        obtain ⟨k3, k4⟩ := k2 q
        rw [if_pos q] at k1
        have et : t' = m := by omega
        subst et
        obtain ⟨Y, hY⟩ : ∃ Y : fx_M, Y = y_ps MC j t' u' rd' := ⟨_, rfl⟩
        rw [← hY] at k1
        have y16 : Y 56 16 = M 56 16 := by rw [hY, y_ps_k (by omega) (by omega) (by omega), e56]
        have yr : ∀ r, r ≠ 56 → r ≠ 69 → Y r = MC r := fun r r1 r2 => by rw [hY, y_ps_r r1 r2]
        have y17 : Y 56 17 = (t' : Int) := by rw [hY, y_ps_17]
        have y69 : Y 69 = rd' := by rw [hY, y_ps_69]
        obtain ⟨s', hs'⟩ : ∃ s', s' = fx_up (y_dr (y_era (M 57) p 24) (M 18) n p t') (144 + p) x2 := ⟨_, rfl⟩
        obtain ⟨MM, hMM⟩ : ∃ MM : fx_M, MM = fx_set (fx_set (y_rec Y n0) 57 s') 56 (fx_up (y_rec Y n0 56) 15 0) := ⟨_, rfl⟩
        have w57 : y_rec Y n0 57 = M 57 := by rw [y_rec_o (by omega) (by omega), yr 57 (by omega) (by omega), e57]
        have hm' : Ev X 137 0 [fx_f 56, .inl (p : Int), .inl x2, fx_u] [] MC (some (.inl (t' : Int))) MM := by
          have ds := evm_draws (X := X) (M := fx_set (y_rec Y n0) 57 (y_era (M 57) p 24)) (T := M 18) (rd := rd') (n := n) (p := p) (m := t') (x2 := x2) hp6 (by omega) (by rw [fx_sn (by omega), y_rec_o (by omega) (by omega), y69]) (by rw [fx_sn (by omega), y_rec_56 (by omega), y17]) k4
          rw [fx_sk, fx_ss, ← hs', fx_sn (by omega), ← hMM] at ds
          refine m0 _ _ _ (r137_12 k1 (r137_14T (by decide) (by decide) (r137_17 (recd Y y16) (r137_19 (Ev.mem ?_ (evm_rubsAll hp6)) ds))))
          rw [w57]
        have M57 : MM 57 = s' := by rw [hMM, fx_sn (by omega), fx_sk]
        have Mr : ∀ r, r ≠ 56 → r ≠ 57 → MM r = y_rec Y n0 r := fun r r1 r2 => by rw [hMM, fx_sn r1, fx_sn r2]
        have M56 : ∀ k, k ≠ 15 → MM 56 k = y_rec Y n0 56 k := fun k hk => by rw [hMM, fx_sk, fx_upn _ _ hk]
        have e2 : MM 2 = O' := by rw [Mr 2 (by omega) (by omega), y_rec_o (by omega) (by omega), yr 2 (by omega) (by omega), C2]
        have e3 : MM 3 = H' := by rw [Mr 3 (by omega) (by omega), y_rec_o (by omega) (by omega), yr 3 (by omega) (by omega), C3]
        have e17 : MM 17 = fx_up (M 17) 1 0 := by rw [Mr 17 (by omega) (by omega), y_rec_o (by omega) (by omega), yr 17 (by omega) (by omega), C17]
        have dz := y_dr_z (O := z_era (M 2) p 24) (s := y_era (M 57) p 24) (T := M 18) (n := n) hp6 (fun k hk => by
          have := hO k hk
          unfold mO at this
          unfold y_era z_era
          split
          · rfl
          · omega) t'
        refine ⟨(t' : Int), MC, MM, hc, hm', fin MC MM C (fun r r1 r2 r3 r4 => ?_) ?_ ?_ ?_, by constructor <;> omega⟩
        · rw [Mr r r1 r2]
          by_cases r60 : r = 60
          · subst r60
            rw [y_rec_60, y_rec_60, yr 60 (by omega) (by omega), yr 57 (by omega) (by omega)]
          · rw [y_rec_o r60 r1, y_rec_o r60 r1, yr r r1 r4]
        · rw [M56 16 (by omega)]
          unfold y_rec
          split <;> rfl
        · refine sE_mk (by rw [e2]; exact g1) (by rw [e3]; exact hrg) (by rw [e2]; exact g2) (fun k hk => ?_) (fun i hi' => ?_)
          · rw [M57, e2, hs', fx_upn _ _ (by omega), hO']
            exact dz.1 k hk
          · rw [M57, e3, hs', hH']
            by_cases g : i = p
            · subst g
              rw [fx_upk, fx_upk]
            · rw [fx_upn _ _ (by omega), fx_upn _ _ g, dz.2 _ (by omega)]
              unfold y_era
              rw [if_neg (by omega)]
              exact hH i hi'
        · exact ⟨0, by omega, by rw [e17, fx_upk]; rfl, by rw [hMM, fx_sk, fx_upk]; rfl, fun k hk => by omega⟩
      · obtain ⟨j, t', u', rd', k1, -⟩ := km M rfl rfl
        rw [if_neg q] at kc k1
        exact OP_read (z := -3) hI (c0 _ _ (r0_10 kc (r0_13F (by omega) (by omega) r0_15))) (frC_r M) (m0 _ _ _ (r137_12 k1 (r137_14F (by omega) (by omega) r137_15))) frM_ps (by decide)
    · exact OP_read (z := -2) hI (r0_0 (ev_isPanel_y hp) (r0_2T (by omega) (by omega) (r0_5 (ev_isHand_n h2 (by omega)) (r0_7F (by omega) rfl r0_8)))) (frC_r M) (r137_0 (evm_isPanel_y hp) (r137_2T (by omega) (by omega) (r137_5 (evm_in_n (by omega) h2 (by decide) (by decide)) (r137_9F (by omega) rfl r137_10)))) (frM_r M) (by decide)
  · exact OP_read (z := -1) hI (r0_0 (ev_isPanel_n h1 (by omega)) (r0_2F (by omega) rfl r0_3)) (frC_r M) (r137_0 (evm_isPanel_n h1 (by omega)) (r137_2F (by omega) rfl r137_3)) (frM_r M) (by decide)
end DRW

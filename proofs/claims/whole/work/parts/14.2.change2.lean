section CH2
variable {X : fx_Sc} {M M' : fx_M}
theorem op_rub {x1 x2 : Int} (hI : cI M) (h1 : pR x1) (h2 : pR x2) : OP X M 9 122 [.inl x1, .inl x2, fx_u] [.inl x1, .inl x2, fx_u] := by
  obtain ⟨S1, S2, hA, hO, hH, hi, hi2, hz, hz2⟩ := sD_of hI.1
  by_cases hp : (0 ≤ x1 ∧ x1 < 6) ∧ (0 ≤ x2 ∧ x2 < 24)
  · obtain ⟨p, rfl⟩ := nat_of hp.1.1
    obtain ⟨e, rfl⟩ := nat_of hp.2.1
    have hp6 : p < 6 := by omega
    have he : e < 24 := by omega
    have hk : 24 * p + e < 144 := by omega
    have ee : 24 * (p : Int) + (e : Int) = ((24 * p + e : Nat) : Int) := by push_cast; rfl
    have et : ((24 * p + e : Nat) : Int).toNat = 24 * p + e := by omega
    have hOk : M 57 (24 * p + e) - 1 = M 2 (24 * p + e) := hO _ hk
    have c0 : ∀ z M', Ev X 9 14 [fx_f 0, .inl (p : Int), .inl (e : Int), fx_u] [.inl (M 2 (24 * p + e))] M (some (.inl z)) M' → Ev X 9 0 [fx_f 0, .inl (p : Int), .inl (e : Int), fx_u] [] M (some (.inl z)) M' := fun z M' k => r9_0 (ev_isPanel_y hp.1) (r9_2F (by omega) (by omega) (r9_3 (ev_isEnd_y hp.2) (r9_5T (by omega) (by omega) (r9_8 ev_placeOf (r9_13 (ev_otherEnd S1 hk) k)))))
    have m0 : ∀ (M1 : fx_M) (T : mS M1) z M', Ev X 122 13 [fx_f 56, .inl (p : Int), .inl (e : Int), fx_u] [.inl (if mh M1 (24 * p + e) = true then 1 else 0)] M1 (some (.inl z)) M' → Ev X 122 0 [fx_f 56, .inl (p : Int), .inl (e : Int), fx_u] [] M1 (some (.inl z)) M' := fun M1 T z M' k => r122_0 (evm_isEnd_y hp.1 hp.2) (r122_3T (by omega) (by omega) (r122_6 (by rw [ee]; exact evm_has T hk) k))
    rcases hi p e hp6 he with hn | ⟨o, ho, hoe, o1, o2⟩
    · have m1 := m0 M S2
      rw [if_neg (show ¬ mh M (24 * p + e) = true by unfold mh; rw [decide_eq_true_eq]; omega)] at m1
      exact OP_read hI (c0 _ _ (r9_14F (by rw [hn]; omega) hn r9_18)) (frC_r M) (m1 _ _ (r122_13F (by omega) rfl r122_14)) (frM_r M) (by decide)
    obtain ⟨n, a, ha6, rem, recd, fin⟩ := chg_D (X := X) hI
    obtain ⟨MC, hMC⟩ : ∃ MC : fx_M, MC = fx_set (y_rm M n a) 2 (z_unl (M 2) p e o) := ⟨_, rfl⟩
    have C : ∀ r, 4 < r → MC r = y_rm M n a r := fun r hr => by rw [hMC, fx_sn (by omega)]
    have C2 : MC 2 = z_unl (M 2) p e o := by rw [hMC, fx_sk]
    have C3 : MC 3 = M 3 := by rw [hMC, fx_sn (by omega), y_rm_o ha6 (by omega)]
    have e57 : MC 57 = M 57 := by rw [C 57 (by omega), y_rm_o ha6 (by omega)]
    have e56 : MC 56 = M 56 := by rw [C 56 (by omega), y_rm_o ha6 (by omega)]
    obtain ⟨MM, hMM⟩ : ∃ MM : fx_M, MM = fx_set (y_rec MC n) 57 (fx_up (fx_up (M 57) (24 * p + e) 0) (24 * p + o) 0) := ⟨_, rfl⟩
    obtain ⟨f1, f2, f3⟩ := chg_fin (O' := z_unl (M 2) p e o) (H' := M 3) (s' := fx_up (fx_up (M 57) (24 * p + e) 0) (24 * p + o) 0) (MM := MM) hI ha6 fin C C2 C3 (fun r r1 r2 => by rw [hMM, fx_sn r1]) (by rw [hMM, fx_sk]) (fun k hk => by
      show -1 ≤ (if k = 24 * p + o then (-1 : Int) else if k = 24 * p + e then (-1 : Int) else M 2 k) ∧ (if k = 24 * p + o then (-1 : Int) else if k = 24 * p + e then (-1 : Int) else M 2 k) < 24
      have : -1 ≤ M 2 k ∧ M 2 k < 24 := S1.2.1 k hk
      split
      · omega
      · split <;> omega) S1.2.2 (z_inv_unl hi he ho o1 o2) (fun k hk => by
      show (if k = 24 * p + o then (0 : Int) else if k = 24 * p + e then (0 : Int) else M 57 k) = (if k = 24 * p + o then (-1 : Int) else if k = 24 * p + e then (-1 : Int) else M 2 k) + 1
      have := hO k hk
      unfold mO at this
      split
      · rfl
      · split
        · rfl
        · omega) (fun q hq => by
      show (if 144 + q = 24 * p + o then (0 : Int) else if 144 + q = 24 * p + e then (0 : Int) else M 57 (144 + q)) = M 3 q
      rw [if_neg (by omega), if_neg (by omega)]
      exact hH q hq)
    refine ⟨(o : Int), MC, MM, ?_, ?_, f1, by constructor <;> omega⟩
    · rw [o1] at c0
      refine c0 _ _ (r9_14T (by omega) (by omega) (r9_20 rem (r9_25 (Ev.mem ?_ (ev_unlink isS1 hp6 he ho)) r9_31)))
      rw [hMC]
      show fx_set (y_rm M n a) 2 (z_unl (y_rm M n a 2) p e o) = _
      rw [y_rm_o ha6 (by omega)]
    · have T : mS MC := mS_f S2 e57
      have eh : mh MC = mh M := by unfold mh; rw [e57]
      have m1 := m0 MC T
      rw [eh, if_pos (show mh M (24 * p + e) = true by unfold mh; rw [decide_eq_true_eq]; omega)] at m1
      have r57 : y_rec MC n 57 = M 57 := by rw [y_rec_o (by omega) (by omega), e57]
      have v : y_rec MC n 57 (24 * p + e) - 1 = (o : Int) := by rw [r57, hOk, o1]
      have eo : 24 * (p : Int) + (o : Int) = ((24 * p + o : Nat) : Int) := by push_cast; rfl
      have eot : ((24 * p + o : Nat) : Int).toNat = 24 * p + o := by omega
      have last := r122_18 (X := X) (M := y_rec MC n) (x1 := (p : Int)) (x2 := (e : Int)) ⟨by omega, by rw [ee, et, v, eo]; omega⟩
      rw [ee, et, v, eo, eot, fx_ss, fx_sk, r57, ← hMM] at last
      exact m1 _ _ (r122_13T (by omega) (by omega) (r122_16 (recd MC (by rw [e56])) last))
  · refine OP_read (z := -1) hI ?_ (frC_r M) (r122_0 (evm_isEnd_n h1 h2 (by omega)) (r122_3F (by omega) rfl r122_4)) (frM_r M) (by decide)
    by_cases h0 : 0 ≤ x1 ∧ x1 < 6
    · exact r9_0 (ev_isPanel_y h0) (r9_2F (by omega) (by omega) (r9_3 (ev_isEnd_n h2 (by omega)) (r9_5F (by omega) rfl r9_6)))
    · exact r9_0 (ev_isPanel_n h1 (by omega)) (r9_2T (by omega) rfl r9_6)
theorem op_clear {x1 : Int} (hI : cI M) (h1 : pR x1) : OP X M 10 123 [.inl x1, fx_u] [.inl x1, fx_u] := by
  obtain ⟨S1, S2, hA, hO, hH, hi, hi2, hz, hz2⟩ := sD_of hI.1
  by_cases hp : 0 ≤ x1 ∧ x1 < 6
  · obtain ⟨p, rfl⟩ := nat_of hp.1
    have hp6 : p < 6 := by omega
    obtain ⟨n, a, ha6, rem, recd, fin⟩ := chg_D (X := X) hI
    obtain ⟨MC, hMC⟩ : ∃ MC : fx_M, MC = fx_set (y_rm M n a) 2 (z_era (M 2) p 24) := ⟨_, rfl⟩
    have C : ∀ r, 4 < r → MC r = y_rm M n a r := fun r hr => by rw [hMC, fx_sn (by omega)]
    have C2 : MC 2 = z_era (M 2) p 24 := by rw [hMC, fx_sk]
    have C3 : MC 3 = M 3 := by rw [hMC, fx_sn (by omega), y_rm_o ha6 (by omega)]
    have e57 : MC 57 = M 57 := by rw [C 57 (by omega), y_rm_o ha6 (by omega)]
    have e56 : MC 56 = M 56 := by rw [C 56 (by omega), y_rm_o ha6 (by omega)]
    obtain ⟨MM, hMM⟩ : ∃ MM : fx_M, MM = fx_set (y_rec MC n) 57 (y_era (M 57) p 24) := ⟨_, rfl⟩
    obtain ⟨f1, f2, f3⟩ := chg_fin (O' := z_era (M 2) p 24) (H' := M 3) (s' := y_era (M 57) p 24) (MM := MM) hI ha6 fin C C2 C3 (fun r r1 r2 => by rw [hMM, fx_sn r1]) (by rw [hMM, fx_sk]) (z_era_rg S1.2.1) S1.2.2 (z_inv_era hi) (fun k hk => by
      have := hO k hk
      unfold mO at this
      unfold y_era z_era
      split
      · rfl
      · omega) (fun q hq => by
      unfold y_era
      rw [if_neg (by omega)]
      exact hH q hq)
    have r57 : y_rec MC n 57 = M 57 := by rw [y_rec_o (by omega) (by omega), e57]
    have T : mS (y_rec MC n) := mS_f S2 r57
    have ms := evm_strokesOf (X := X) T hp6
    rw [show mh (y_rec MC n) = mh M by unfold mh; rw [r57], ← z_str_x hA hp6] at ms
    have b := z_str_b (ph M 1) p
    refine ⟨(z_str (ph M 1) p : Int), MC, MM, ?_, ?_, f1, by constructor <;> omega⟩
    · refine r10_0 (ev_isPanel_y hp) (r10_2T (by omega) (by omega) (r10_5 (ev_strokesIn S1 hp6) (r10_9 rem (r10_15 (Ev.mem ?_ (ev_erase isS1 hp6)) r10_19))))
      rw [hMC]
      show fx_set (y_rm M n a) 2 (z_era (y_rm M n a 2) p 24) = _
      rw [y_rm_o ha6 (by omega)]
    · refine r123_0 (evm_isPanel_y hp) (r123_2T (by omega) (by omega) (r123_5 (recd MC (by rw [e56])) (r123_7 ms (r123_10 (Ev.mem ?_ (evm_rubsAll hp6)) r123_14))))
      rw [hMM, r57]
  · exact OP_read hI (r10_0 (ev_isPanel_n h1 (by omega)) (r10_2F (by omega) rfl r10_3)) (frC_r M) (r123_0 (evm_isPanel_n h1 (by omega)) (r123_2F (by omega) rfl r123_3)) (frM_r M) (by decide)
theorem op_exchange {x1 x2 : Int} (hI : cI M) (h1 : pR x1) (h2 : pR x2) : OP X M 14 134 [.inl x1, .inl x2] [.inl x1, .inl x2] := by
  obtain ⟨S1, S2, hA, hO, hH, hi, hi2, hz, hz2⟩ := sD_of hI.1
  by_cases hp : (0 ≤ x1 ∧ x1 < 6) ∧ (0 ≤ x2 ∧ x2 < 6)
  · obtain ⟨p, rfl⟩ := nat_of hp.1.1
    obtain ⟨q, rfl⟩ := nat_of hp.2.1
    have hp6 : p < 6 := by omega
    have hq6 : q < 6 := by omega
    have c0 : ∀ z M', Ev X 14 8 [fx_f 0, .inl (p : Int), .inl (q : Int)] [] M (some (.inl z)) M' → Ev X 14 0 [fx_f 0, .inl (p : Int), .inl (q : Int)] [] M (some (.inl z)) M' := fun z M' k => r14_0 (ev_isPanel_y hp.1) (r14_2F (by omega) (by omega) (r14_3 (ev_isPanel_y hp.2) (r14_5T (by omega) (by omega) k)))
    have m0 : ∀ (M1 : fx_M) z M', Ev X 134 8 [fx_f 56, .inl (p : Int), .inl (q : Int)] [] M1 (some (.inl z)) M' → Ev X 134 0 [fx_f 56, .inl (p : Int), .inl (q : Int)] [] M1 (some (.inl z)) M' := fun M1 z M' k => r134_0 (evm_isPanel_y hp.1) (r134_2F (by omega) (by omega) (r134_3 (evm_isPanel_y hp.2) (r134_5T (by omega) (by omega) k)))
    by_cases hpq : p = q
    · exact OP_read hI (c0 _ _ (r14_8F ⟨h1, h2⟩ (by omega) r14_11)) (frC_r M) (m0 _ _ _ (r134_8F ⟨h1, h2⟩ (by omega) r134_11)) (frM_r M) (by decide)
    obtain ⟨n, a, ha6, rem, recd, fin⟩ := chg_D (X := X) hI
    obtain ⟨MC, hMC⟩ : ∃ MC : fx_M, MC = fx_set (fx_set (y_rm M n a) 2 (z_swp (M 2) p q 24)) 3 (z_sw6 (M 3) p q) := ⟨_, rfl⟩
    have C : ∀ r, 4 < r → MC r = y_rm M n a r := fun r hr => by rw [hMC, fx_sn (by omega), fx_sn (by omega)]
    have C2 : MC 2 = z_swp (M 2) p q 24 := by rw [hMC, fx_sn (by omega), fx_sk]
    have C3 : MC 3 = z_sw6 (M 3) p q := by rw [hMC, fx_sk]
    have e57 : MC 57 = M 57 := by rw [C 57 (by omega), y_rm_o ha6 (by omega)]
    have e56 : MC 56 = M 56 := by rw [C 56 (by omega), y_rm_o ha6 (by omega)]
    obtain ⟨MM, hMM⟩ : ∃ MM : fx_M, MM = fx_set (y_rec MC n) 57 (y_swp (M 57) p q) := ⟨_, rfl⟩
    have hsw : ∀ k, k < 144 → y_swp (M 57) p q k = z_swp (M 57) p q 24 k := fun k hk => by
      unfold y_swp
      rw [fx_upn _ _ (by omega), fx_upn _ _ (by omega)]
    have b3 : ∀ i, i < 6 → 0 ≤ M 3 i ∧ M 3 i < 6 := S1.2.2
    obtain ⟨f1, f2, f3⟩ := chg_fin (O' := z_swp (M 2) p q 24) (H' := z_sw6 (M 3) p q) (s' := y_swp (M 57) p q) (MM := MM) hI ha6 fin C C2 C3 (fun r r1 r2 => by rw [hMM, fx_sn r1]) (by rw [hMM, fx_sk]) (z_swp_rg hp6 hq6 S1.2.1) (fun i hi' => by
      show 0 ≤ (if i = q then M 3 p else if i = p then M 3 q else M 3 i) ∧ (if i = q then M 3 p else if i = p then M 3 q else M 3 i) < 6
      split
      · exact b3 p hp6
      · split
        · exact b3 q hq6
        · exact b3 i hi') (z_inv_swp hi hp6 hq6 hpq) (fun k hk => by
      have hp1 : ∀ k, k < 144 → M 57 k = M 2 k + 1 := fun k hk => by have := hO k hk; unfold mO at this; omega
      rw [hsw k hk]
      unfold z_swp
      split
      · exact hp1 _ (by omega)
      · split
        · exact hp1 _ (by omega)
        · exact hp1 k hk) (fun i hi' => by
      have hH' : ∀ p, p < 6 → M 57 (144 + p) = M 3 p := hH
      show (if 144 + i = 144 + q then M 57 (144 + p) else if 144 + i = 144 + p then M 57 (144 + q) else z_swp (M 57) p q 24 (144 + i)) = (if i = q then M 3 p else if i = p then M 3 q else M 3 i)
      by_cases g1 : i = q
      · rw [if_pos (by omega), if_pos g1]; exact hH' p hp6
      · rw [if_neg (by omega), if_neg g1]
        by_cases g2 : i = p
        · rw [if_pos (by omega), if_pos g2]; exact hH' q hq6
        · rw [if_neg (by omega), if_neg g2, z_swp_hi hp6 hq6 (by omega)]; exact hH' i hi')
    have b := z_loose_b (ph MC 1)
    have ml := mloose (X := X) f1.1
    rw [f3] at ml
    refine ⟨(z_loose (ph MC 1) : Int), MC, MM, ?_, ?_, f1, by constructor <;> omega⟩
    · have SR : pS (y_rm M n a) 1 := pS_f S1 (y_rm_o ha6 (by omega)) (y_rm_o ha6 (by omega))
      refine c0 _ _ (r14_8T ⟨h1, h2⟩ (by omega) (r14_13 rem (r14_18 (Ev.mem ?_ (ev_swap SR hp6 hq6 hpq)) (r14_23 (ev_looseEnds f2) r14_26))))
      rw [hMC]
      show fx_set (fx_set (y_rm M n a) 2 (z_swp (y_rm M n a 2) p q 24)) 3 (z_sw6 (y_rm M n a 3) p q) = _
      rw [y_rm_o ha6 (by omega), y_rm_o ha6 (by omega)]
    · refine m0 _ _ _ (r134_8T ⟨h1, h2⟩ (by omega) (r134_13 (recd MC (by rw [e56])) (r134_15 (Ev.mem ?_ (evm_exchanges hp6 hq6 hpq)) (r134_19 ml r134_21))))
      rw [hMM, y_rec_o (by omega) (by omega), e57]
  · refine OP_read (z := -1) hI ?_ (frC_r M) ?_ (frM_r M) (by decide)
    · by_cases q1 : 0 ≤ x1 ∧ x1 < 6
      · exact r14_0 (ev_isPanel_y q1) (r14_2F (by omega) (by omega) (r14_3 (ev_isPanel_n h2 (by omega)) (r14_5F (by omega) rfl r14_6)))
      · exact r14_0 (ev_isPanel_n h1 (by omega)) (r14_2T (by omega) rfl r14_6)
    · by_cases q1 : 0 ≤ x1 ∧ x1 < 6
      · exact r134_0 (evm_isPanel_y q1) (r134_2F (by omega) (by omega) (r134_3 (evm_isPanel_n h2 (by omega)) (r134_5F (by omega) rfl r134_6)))
      · exact r134_0 (evm_isPanel_n h1 (by omega)) (r134_2T (by omega) rfl r134_6)
end CH2

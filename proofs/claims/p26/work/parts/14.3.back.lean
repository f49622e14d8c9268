/-! saving, bringing back, undoing -/
section BCK
variable {X : fx_Sc} {M M' : fx_M}
theorem act_save {x : Nat} (h : cI M) (hx : x < 2) : ∃ M', Ev X 35 0 [fx_f 0, .inl (x : Int)] [] M (some (.inl ((pb_n (z_str (ph M 1)) 6 : Nat) : Int))) M' ∧ cI M' ∧ (∀ r, r < 47 ∨ 55 < r → M' r = M r) ∧ M' 47 x = 1 ∧ (∀ k, k < 144 → M' (48 + 4 * x + 1) k = M 2 k) ∧ (∀ p, p < 6 → M' (48 + 4 * x + 2) p = M 3 p) := by
  obtain ⟨hs, hh, hk⟩ := id h
  have ex : (x : Int).toNat = x := by omega
  obtain ⟨MG, hMG⟩ : ∃ MG : fx_M, MG = fx_set (fx_set M (48 + 4 * x + 1) (z_cpy (M 2) (M (48 + 4 * x + 1)) 144)) (48 + 4 * x + 2) (z_cpy (M 3) (M (48 + 4 * x + 2)) 6) := ⟨_, rfl⟩
  obtain ⟨MC, hMC⟩ : ∃ MC : fx_M, MC = fx_set MG 47 (fx_up (MG 47) x 1) := ⟨_, rfl⟩
  have eC : ∀ r, r < 47 ∨ 55 < r → MC r = M r := fun r hr => by rw [hMC, fx_sn (by omega), hMG, fx_sn (by omega), fx_sn (by omega)]
  have g47 : MG 47 = M 47 := by rw [hMG, fx_sn (by omega), fx_sn (by omega)]
  have c47 : MC 47 = fx_up (M 47) x 1 := by rw [hMC, fx_sk, g47]
  have cq : ∀ r, 47 < r → MC r = MG r := fun r q1 => by rw [hMC, fx_sn (by omega)]
  have w1 : ∀ k, k < 144 → MC (48 + 4 * x + 1) k = M 2 k := fun k hk => by rw [cq _ (by omega), hMG, fx_sn (by omega), fx_sk, z_cpy_v hk]
  have w2 : ∀ p, p < 6 → MC (48 + 4 * x + 2) p = M 3 p := fun p hp => by rw [cq _ (by omega), hMG, fx_sk, z_cpy_v hp]
  have hs2 : sC MC 1 := sC_f hs (eC 2 (by omega)) (eC 3 (by omega))
  have phe : ph MC 1 = ph M 1 := by unfold ph; rw [eC (1 + 1) (by omega)]
  have st := ev_strokes (X := X) hs2.1
  rw [phe] at st
  refine ⟨MC, ?_, ⟨hs2, hC_f hh (fun q _ _ => eC q (by omega)), fun i hi => ?_⟩, eC, by rw [c47, fx_upk], w1, w2⟩
  · refine r35_0 (ev_isSlot_y (by omega)) (r35_2T (by omega) (by omega) (r35_5 (r74_0 (ev_isSlot_y (by omega)) (r74_2F (by omega) (by omega) (r74_3 (q2 := 48 + 4 * x) (by rw [ex]; exact at_sl x hx) (by rw [ex]; exact at_sl x hx) (isS_sl x hx) (by omega) (ev_copyFrom (isS_sl x hx) isS1 (by omega)) (Ev.mem ?_ (r74_14 (by omega)))))) (r35_11 st r35_14)))
    rw [ex]
    show fx_set (fx_set (fx_set M (48 + 4 * x + 1) (z_cpy (M 2) (M (48 + 4 * x + 1)) 144)) (48 + 4 * x + 2) (z_cpy (M 3) (M (48 + 4 * x + 2)) 6)) 47 _ = MC
    rw [← hMG, hMC]
  · by_cases hxi : i = x
    · subst hxi
      exact ⟨Or.inr (by rw [c47, fx_upk]), sC_mv hs (isS_sl i hx) w1 w2⟩
    · rw [c47, fx_upn _ _ hxi]
      exact ⟨(hk i hi).1, sC_f (hk i hi).2 (by rw [cq _ (by omega), hMG, fx_sn (by omega), fx_sn (by omega)]) (by rw [cq _ (by omega), hMG, fx_sn (by omega), fx_sn (by omega)])⟩
theorem act_restoreN {x : Nat} (hx : x < 2) (h0 : M 47 x = 0) : Ev X 37 0 [fx_f 0, .inl (x : Int)] [] M (some (.inl (-5))) M := by
  have ex : (x : Int).toNat = x := by omega
  have kp : Ev X 75 0 [fx_f 45, .inl (x : Int)] [] M (some (.inl 0)) M := r75_0 (ev_isSlot_y (by omega)) (r75_2F (by omega) (by omega) (r75_3T (by rw [ex, h0]; omega) (by rw [ex, h0]) r75_15))
  exact r37_0 (ev_isSlot_y (by omega)) (r37_2T (by omega) (by omega) (r37_5 kp (r37_9F (by omega) rfl r37_10)))
theorem act_restore {x : Nat} (h : cI M) (hx : x < 2) (h1 : M 47 x = 1) : ∃ M', Ev X 37 0 [fx_f 0, .inl (x : Int)] [] M (some (.inl ((pb_n (z_str (ph M' 1)) 6 : Nat) : Int))) M' ∧ chg M M' (z_cpy (M (48 + 4 * x + 1)) (M 2) 144) (z_cpy (M (48 + 4 * x + 2)) (M 3) 6) := by
  have ex : (x : Int).toNat = x := by omega
  have kpM : ∀ M1 : fx_M, M1 47 = M 47 → Ev X 75 0 [fx_f 45, .inl (x : Int)] [] M1 (some (.inl 1)) M1 := fun M1 e => r75_0 (ev_isSlot_y (by omega)) (r75_2F (by omega) (by omega) (r75_3F (by rw [ex, e, h1]; omega) (by rw [ex, e, h1]; omega) (r75_8 (by rw [ex]; exact at_sl x hx) (by omega))))
  obtain ⟨n, a, ha6, rem, fin⟩ := chg_D (X := X) h
  obtain ⟨⟨w0, w1, w2⟩, w3⟩ := (h.2.2 x hx).2
  have f1 := fin (fx_set (fx_set (y_rm M n a) 2 (z_cpy (M (48 + 4 * x + 1)) (M 2) 144)) 3 (z_cpy (M (48 + 4 * x + 2)) (M 3) 6)) (z_cpy (M (48 + 4 * x + 1)) (M 2) 144) (z_cpy (M (48 + 4 * x + 2)) (M 3) 6) (fun r hr => by rw [fx_sn (by omega), fx_sn (by omega)]) (by rw [fx_sn (by omega), fx_sk]) fx_sk (fun k hk => by rw [z_cpy_v hk]; exact w1 k hk) (fun k hk => by rw [z_cpy_v hk]; exact w2 k hk) (z_inv_x (fun k hk => z_cpy_v hk) w3)
  refine ⟨_, r37_0 (ev_isSlot_y (by omega)) (r37_2T (by omega) (by omega) (r37_5 (kpM M rfl) (r37_9T (by omega) (by omega) (r37_12 rem (r37_17 (r76_0 (kpM _ (y_rm_o ha6 (by omega))) (r76_3F (by omega) (by omega) (r76_4 (q1 := 48 + 4 * x) isS1 (by rw [ex]; exact at_sl x hx) (by omega) (ev_copyFrom isS1 (isS_sl x hx) (by omega)) (Ev.memL ?_ r76_10)))) (r37_23 (ev_strokes f1.1.1.1) r37_26)))))), f1⟩
  show fx_set (fx_set (y_rm M n a) 2 (z_cpy (y_rm M n a (48 + 4 * x + 1)) (y_rm M n a 2) 144)) 3 (z_cpy (y_rm M n a (48 + 4 * x + 2)) (y_rm M n a 3) 6) = _
  rw [y_rm_o ha6 (by omega), y_rm_o ha6 (by omega), y_rm_o ha6 (by omega), y_rm_o ha6 (by omega)]
theorem act_undoN (h0 : M 19 1 = 0) : Ev X 34 0 [fx_f 0] [] M (some (.inl (-5))) M := r34_0 r39_0 (r34_3F (by rw [h0]; omega) (by rw [h0]) r34_4)
theorem act_undo {b m : Nat} (h : cI M) (hb6 : b < 6) (hm : m < 6) (h1 : M 19 1 = ((m + 1 : Nat) : Int)) (h2 : M 19 2 = (((b + 1) % 6 : Nat) : Int)) : ∃ M', Ev X 34 0 [fx_f 0] [] M (some (.inl (m : Int))) M' ∧ sC M' 1 ∧ ∀ k, k < 144 → M' 2 k = M (21 + 4 * b + 1) k := by
  have hrem : fx_rem ((((b + 1) % 6 : Nat) : Int) + 6 - 1) 6 = (b : Int) := by
    have := pb_rem (a := (b + 1) % 6 + 5) (d := 6) (by omega) (by omega) (by omega)
    rw [show (((b + 1) % 6 : Nat) : Int) + 6 - 1 = (((b + 1) % 6 + 5 : Nat) : Int) by omega]
    refine this.trans ?_
    congr 1
    omega
  obtain ⟨MG, hMG⟩ : ∃ MG : fx_M, MG = fx_set (fx_set M 2 (z_cpy (M (21 + 4 * b + 1)) (M 2) 144)) 3 (z_cpy (M (21 + 4 * b + 2)) (M 3) 6) := ⟨_, rfl⟩
  obtain ⟨MC, hMC⟩ : ∃ MC : fx_M, MC = fx_set MG 19 (fx_up (fx_up (M 19) 2 (b : Int)) 1 (m : Int)) := ⟨_, rfl⟩
  have g19 : MG 19 = M 19 := by rw [hMG, fx_sn (by omega), fx_sn (by omega)]
  have c2 : ∀ k, k < 144 → MC 2 k = M (21 + 4 * b + 1) k := fun k hk => by rw [hMC, fx_sn (by omega), hMG, fx_sn (by omega), fx_sk, z_cpy_v hk]
  have c3 : ∀ k, k < 6 → MC 3 k = M (21 + 4 * b + 2) k := fun k hk => by rw [hMC, fx_sn (by omega), hMG, fx_sk, z_cpy_v hk]
  refine ⟨MC, ?_, sC_mv (h.2.1.2 b hb6) isS1 c2 c3, c2⟩
  have c19 : MC 19 1 = (m : Int) := by rw [hMC, fx_sk, fx_upk]
  have s39 := r39_0 (X := X) (M := MC)
  rw [c19] at s39
  refine r34_0 r39_0 (r34_3T (by rw [h1]; omega) (by rw [h1]; omega) (r34_6 (r40_0 (by rw [h2, hrem]; exact ev_stateAt hb6) (r40_12T (by rw [h1]; omega) (by rw [h1]; omega) (r40_19 isS1 (ev_copyFrom isS1 (isS_st b hb6) (by omega)) (Ev.mem ?_ r40_22)))) (r34_11 s39 r34_14)))
  show fx_set (fx_set (fx_set (fx_set M 2 (z_cpy (M (21 + 4 * b + 1)) (M 2) 144)) 3 (z_cpy (M (21 + 4 * b + 2)) (M 3) 6)) 19 _) 19 _ = MC
  rw [← hMG, fx_ss, fx_sk, h2, hrem, g19, fx_upn _ _ (by omega), h1, hMC]
  congr 2
  push_cast
  omega
end BCK

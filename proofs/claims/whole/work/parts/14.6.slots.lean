theorem isS_sl : ∀ a, a < 2 → fd_isS (48 + 4 * a) := by
  intro a ha
  have : a = 0 ∨ a = 1 := by omega
  rcases this with rfl | rfl <;> exact ⟨rfl, rfl, rfl, rfl⟩
theorem at_sl : ∀ a, a < 2 → ([48, 52] : List Nat)[a]? = some (48 + 4 * a) := by
  intro a ha
  have : a = 0 ∨ a = 1 := by omega
  rcases this with rfl | rfl <;> rfl
section CH6
variable {X : fx_Sc} {M M' : fx_M}
theorem op_save {x1 : Int} (hI : cI M) (h1 : pR x1) : OP X M 35 180 [.inl x1] [.inl x1, fx_u] := by
  obtain ⟨S1, S2, hA, hO, hH, hi, hi2, hz, hz2⟩ := sD_of hI.1
  by_cases hp : 0 ≤ x1 ∧ x1 < 2
  · obtain ⟨x, rfl⟩ := nat_of hp.1
    have hx : x < 2 := by omega
    have ex : (x : Int).toNat = x := by omega
    obtain ⟨hs, hh, hk, hpad⟩ := id hI
    obtain ⟨MG, hMG⟩ : ∃ MG : fx_M, MG = fx_set (fx_set M (48 + 4 * x + 1) (z_cpy (M 2) (M (48 + 4 * x + 1)) 144)) (48 + 4 * x + 2) (z_cpy (M 3) (M (48 + 4 * x + 2)) 6) := ⟨_, rfl⟩
    obtain ⟨MC, hMC⟩ : ∃ MC : fx_M, MC = fx_set MG 47 (fx_up (MG 47) x 1) := ⟨_, rfl⟩
    obtain ⟨MN, hMN⟩ : ∃ MN : fx_M, MN = fx_set MC 61 (fun k => if 150 * x ≤ k ∧ k < 150 * x + 150 then M 57 (k - 150 * x) else M 61 k) := ⟨_, rfl⟩
    obtain ⟨MM, hMM⟩ : ∃ MM : fx_M, MM = fx_set MN 62 (fx_up (MN 62) x 1) := ⟨_, rfl⟩
    have eC : ∀ r, r < 47 ∨ 55 < r → MC r = M r := fun r hr => by rw [hMC, fx_sn (by omega), hMG, fx_sn (by omega), fx_sn (by omega)]
    have eM : ∀ r, r < 47 ∨ (55 < r ∧ r ≠ 61 ∧ r ≠ 62) → MM r = M r := fun r hr => by rw [hMM, fx_sn (by omega), hMN, fx_sn (by omega), eC r (by omega)]
    have g47 : MG 47 = M 47 := by rw [hMG, fx_sn (by omega), fx_sn (by omega)]
    have c47 : MM 47 = fx_up (M 47) x 1 := by rw [hMM, fx_sn (by omega), hMN, fx_sn (by omega), hMC, fx_sk, g47]
    have c62 : MM 62 = fx_up (M 62) x 1 := by rw [hMM, fx_sk, hMN, fx_sn (by omega), eC 62 (by omega)]
    have c61 : MM 61 = fun k => if 150 * x ≤ k ∧ k < 150 * x + 150 then M 57 (k - 150 * x) else M 61 k := by rw [hMM, fx_sn (by omega), hMN, fx_sk]
    have cq : ∀ r, 47 < r → r < 56 → MM r = MG r := fun r q1 q2 => by rw [hMM, fx_sn (by omega), hMN, fx_sn (by omega), hMC, fx_sn (by omega)]
    have hs2 : sE MM 1 57 0 := sE_f hs (eM 2 (by omega)) (eM 3 (by omega)) (eM 57 (by omega))
    have pMC : pS MC 1 := pS_f S1 (eC 2 (by omega)) (eC 3 (by omega))
    have phe : ph MC 1 = ph M 1 := by unfold ph; rw [eC (1 + 1) (by omega)]
    have phm : ph MM 1 = ph M 1 := by unfold ph; rw [eM (1 + 1) (by omega)]
    have b := str_b (ph M 1)
    refine ⟨((pb_n (z_str (ph M 1)) 6 : Nat) : Int), MC, MM, ?_, ?_, ⟨hs2, hI_f hh (fun q _ _ => eM q (by omega)) (eM 60 (by omega)) (by rw [eM 56 (by omega)]), fun i hi' => ?_, pI_f hpad (eM 17 (by omega)) (eM 18 (by omega)) (by rw [eM 56 (by omega)]) (eM 70 (by omega))⟩, by constructor <;> omega⟩
    · have st := ev_strokes (X := X) pMC
      rw [phe] at st
      refine r35_0 (ev_isSlot_y hp) (r35_2T (by omega) (by omega) (r35_5 (r74_0 (ev_isSlot_y hp) (r74_2F (by omega) (by omega) (r74_3 (q2 := 48 + 4 * x) (by rw [ex]; exact at_sl x hx) (by rw [ex]; exact at_sl x hx) (isS_sl x hx) (by omega) (ev_copyFrom (isS_sl x hx) isS1 (by omega)) (Ev.mem ?_ (r74_14 (by omega)))))) (r35_11 st r35_14)))
      rw [ex]
      show fx_set (fx_set (fx_set M (48 + 4 * x + 1) (z_cpy (M 2) (M (48 + 4 * x + 1)) 144)) (48 + 4 * x + 2) (z_cpy (M 3) (M (48 + 4 * x + 2)) 6)) 47 _ = MC
      rw [← hMG, hMC]
    · have st := mstrokes (X := X) hs2
      rw [phm] at st
      refine r180_0 (evm_in_y (by omega) h1 (by decide) (by decide)) (r180_4T (by omega) (by omega) (r180_7 ?_))
      have e61 : MC 61 = M 61 := eC 61 (by omega)
      have e57 : MC 57 = M 57 := eC 57 (by omega)
      have e0 : MC = fx_set MC 61 (fun k => if 150 * x ≤ k ∧ k < 150 * x + 0 then M 57 (k - 150 * x) else M 61 k) := by
        have : (fun k => if 150 * x ≤ k ∧ k < 150 * x + 0 then M 57 (k - 150 * x) else M 61 k) = MC 61 := by funext k; rw [if_neg (by omega), e61]
        rw [this, fx_self]
      refine Ev.memL e0 ?_
      have n57 : ∀ f, (fx_set MC 61 f) 57 = M 57 := fun f => by rw [fx_sn (by omega)]; exact e57
      refine Ev.loop 150 (fun c => [fx_f 56, .inl (x : Int), .inl (c : Int)]) (fun c => fx_set MC 61 (fun k => if 150 * x ≤ k ∧ k < 150 * x + c then M 57 (k - 150 * x) else M 61 k)) (fun c hc k => ?_) (r180_9T (by omega) (by omega) ?_)
      · refine r180_9F (by omega) (by omega) (r180_12 (by omega) (Ev.memL ?_ k))
        rw [n57, fx_ss, fx_sk, show (c : Int).toNat = c by omega, show (150 * (x : Int) + (c : Int)).toNat = 150 * x + c by omega]
        congr 1
        funext q
        show (if q = 150 * x + c then M 57 c else if 150 * x ≤ q ∧ q < 150 * x + c then M 57 (q - 150 * x) else M 61 q) = if 150 * x ≤ q ∧ q < 150 * x + (c + 1) then M 57 (q - 150 * x) else M 61 q
        by_cases g1 : q = 150 * x + c
        · rw [if_pos g1, if_pos (by omega), g1, show 150 * x + c - 150 * x = c by omega]
        · rw [if_neg g1]
          by_cases g2 : 150 * x ≤ q ∧ q < 150 * x + c
          · rw [if_pos g2, if_pos (by omega)]
          · rw [if_neg g2, if_neg (by omega)]
      · rw [← hMN]
        refine r180_26 (by omega) (M1 := MM) ?_ r180_34
        rw [ex, ← hMM]
        exact st
    · by_cases hxi : i = x
      · subst hxi
        refine Or.inr ⟨by rw [c47, fx_upk], by rw [c62, fx_upk], sE_mv hs (isS_sl i hx) (fun k hk => ?_) (fun p hp => ?_) (fun k hk => ?_)⟩
        · rw [cq _ (by omega) (by omega), hMG, fx_sn (by omega), fx_sk]
          unfold z_cpy
          rw [if_pos hk]
        · rw [cq _ (by omega) (by omega), hMG, fx_sk]
          unfold z_cpy
          rw [if_pos hp]
        · rw [c61]
          show (if 150 * i ≤ 150 * i + k ∧ 150 * i + k < 150 * i + 150 then M 57 (150 * i + k - 150 * i) else M 61 (150 * i + k)) = _
          rw [if_pos (by omega), show 150 * i + k - 150 * i = 0 + k by omega]
      · rw [c47, c62, fx_upn _ _ hxi, fx_upn _ _ hxi]
        rcases hk i hi' with q | ⟨q1, q2, q3⟩
        · exact Or.inl q
        · refine Or.inr ⟨q1, q2, sE_mv q3 (isS_sl i hi') (fun k hk => ?_) (fun p hp => ?_) (fun k hk => ?_)⟩
          · rw [cq _ (by omega) (by omega), hMG, fx_sn (by omega), fx_sn (by omega)]
          · rw [cq _ (by omega) (by omega), hMG, fx_sn (by omega), fx_sn (by omega)]
          · rw [c61]
            show (if 150 * x ≤ 150 * i + k ∧ 150 * i + k < 150 * x + 150 then M 57 (150 * i + k - 150 * x) else M 61 (150 * i + k)) = _
            rw [if_neg (by omega)]
  · exact OP_read hI (r35_0 (ev_isSlot_n h1 (by omega)) (r35_2F (by omega) rfl r35_3)) (frC_r M) (r180_0 (evm_in_n (by omega) h1 (by decide) (by decide)) (r180_4F (by omega) rfl r180_5)) (frM_r M) (by decide)
theorem op_restore {x1 : Int} (hI : cI M) (h1 : pR x1) : OP X M 37 181 [.inl x1] [.inl x1, fx_u] := by
  obtain ⟨S1, S2, hA, hO, hH, hi, hi2, hz, hz2⟩ := sD_of hI.1
  by_cases hp : 0 ≤ x1 ∧ x1 < 2
  · obtain ⟨x, rfl⟩ := nat_of hp.1
    have hx : x < 2 := by omega
    have ex : (x : Int).toNat = x := by omega
    have m0 : ∀ (M1 : fx_M) z M', Ev X 181 7 [fx_f 56, .inl (x : Int), fx_u] [] M1 (some (.inl z)) M' → Ev X 181 0 [fx_f 56, .inl (x : Int), fx_u] [] M1 (some (.inl z)) M' := fun M1 z M' k => r181_0 (evm_in_y (by omega) h1 (by decide) (by decide)) (r181_4T (by omega) (by omega) k)
    rcases hI.2.2.1 x hx with ⟨q1, q2⟩ | ⟨q1, q2, q3⟩
    · have kp : Ev X 75 0 [fx_f 45, .inl (x : Int)] [] M (some (.inl 0)) M := r75_0 (ev_isSlot_y hp) (r75_2F (by omega) (by omega) (r75_3T (by rw [ex, q1]; omega) (by rw [ex, q1]) r75_15))
      exact OP_read hI (r37_0 (ev_isSlot_y hp) (r37_2T (by omega) (by omega) (r37_5 kp (r37_9F (by omega) rfl r37_10)))) (frC_r M) (m0 _ _ _ (r181_7F (by rw [ex, q2]; omega) (by rw [ex, q2]) r181_12)) (frM_r M) (by decide)
    · have kpM : ∀ M1 : fx_M, M1 47 = M 47 → Ev X 75 0 [fx_f 45, .inl (x : Int)] [] M1 (some (.inl 1)) M1 := fun M1 e => r75_0 (ev_isSlot_y hp) (r75_2F (by omega) (by omega) (r75_3F (by rw [ex, e, q1]; omega) (by rw [ex, e, q1]; omega) (r75_8 (by rw [ex]; exact at_sl x hx) (by omega))))
      obtain ⟨n, a, ha6, rem, recd, fin⟩ := chg_D (X := X) hI
      obtain ⟨MC, hMC⟩ : ∃ MC : fx_M, MC = fx_set (fx_set (y_rm M n a) 2 (z_cpy (M (48 + 4 * x + 1)) (M 2) 144)) 3 (z_cpy (M (48 + 4 * x + 2)) (M 3) 6) := ⟨_, rfl⟩
      have C : ∀ r, 4 < r → MC r = y_rm M n a r := fun r hr => by rw [hMC, fx_sn (by omega), fx_sn (by omega)]
      have C2 : MC 2 = z_cpy (M (48 + 4 * x + 1)) (M 2) 144 := by rw [hMC, fx_sn (by omega), fx_sk]
      have C3 : MC 3 = z_cpy (M (48 + 4 * x + 2)) (M 3) 6 := by rw [hMC, fx_sk]
      have e57 : MC 57 = M 57 := by rw [C 57 (by omega), y_rm_o ha6 (by omega)]
      have e56 : MC 56 = M 56 := by rw [C 56 (by omega), y_rm_o ha6 (by omega)]
      have e61 : MC 61 = M 61 := by rw [C 61 (by omega), y_rm_o ha6 (by omega)]
      have e62 : MC 62 = M 62 := by rw [C 62 (by omega), y_rm_o ha6 (by omega)]
      have r57 : y_rec MC n 57 = M 57 := by rw [y_rec_o (by omega) (by omega), e57]
      have r61 : y_rec MC n 61 = M 61 := by rw [y_rec_o (by omega) (by omega), e61]
      obtain ⟨MM, hMM⟩ : ∃ MM : fx_M, MM = fx_set (y_rec MC n) 57 (fun k => if k < 150 then M 61 (150 * x + k) else M 57 k) := ⟨_, rfl⟩
      obtain ⟨⟨w0, w1, w2⟩, w3, w4, w5⟩ := q3
      have cp : ∀ k, k < 144 → z_cpy (M (48 + 4 * x + 1)) (M 2) 144 k = M (48 + 4 * x + 1) k := fun k hk => by unfold z_cpy; rw [if_pos hk]
      have ch : ∀ k, k < 6 → z_cpy (M (48 + 4 * x + 2)) (M 3) 6 k = M (48 + 4 * x + 2) k := fun k hk => by unfold z_cpy; rw [if_pos hk]
      obtain ⟨f1, f2, f3⟩ := chg_fin (O' := z_cpy (M (48 + 4 * x + 1)) (M 2) 144) (H' := z_cpy (M (48 + 4 * x + 2)) (M 3) 6) (s' := fun k => if k < 150 then M 61 (150 * x + k) else M 57 k) (MM := MM) hI ha6 fin C C2 C3 (fun r r1 r2 => by rw [hMM, fx_sn r1]) (by rw [hMM, fx_sk]) (fun k hk => by rw [cp k hk]; exact w1 k hk) (fun k hk => by rw [ch k hk]; exact w2 k hk) (fun p e hp he => by
          rw [cp _ (by omega)]
          rcases w3 p e hp he with g | ⟨o, o1, o2, o3, o4⟩
          · exact Or.inl g
          · exact Or.inr ⟨o, o1, o2, o3, by rw [cp _ (by omega)]; exact o4⟩) (fun k hk => by
          show (if k < 150 then M 61 (150 * x + k) else M 57 k) = _
          rw [if_pos (by omega), cp k hk]; exact w4 k hk) (fun p hp => by
          show (if 144 + p < 150 then M 61 (150 * x + (144 + p)) else M 57 (144 + p)) = _
          rw [if_pos (by omega), ch p hp, ← Nat.add_assoc]; exact w5 p hp)
      have b := str_b (ph MC 1)
      have ms := mstrokes (X := X) f1.1
      rw [f3] at ms
      refine ⟨((pb_n (z_str (ph MC 1)) 6 : Nat) : Int), MC, MM, ?_, ?_, f1, by constructor <;> omega⟩
      · refine r37_0 (ev_isSlot_y hp) (r37_2T (by omega) (by omega) (r37_5 (kpM M rfl) (r37_9T (by omega) (by omega) (r37_12 rem (r37_17 (r76_0 (kpM _ (y_rm_o ha6 (by omega))) (r76_3F (by omega) (by omega) (r76_4 (q1 := 48 + 4 * x) isS1 (by rw [ex]; exact at_sl x hx) (by omega) (ev_copyFrom isS1 (isS_sl x hx) (by omega)) (Ev.memL ?_ r76_10)))) (r37_23 (ev_strokes f2) r37_26))))))
        show fx_set (fx_set (y_rm M n a) 2 (z_cpy (y_rm M n a (48 + 4 * x + 1)) (y_rm M n a 2) 144)) 3 (z_cpy (y_rm M n a (48 + 4 * x + 2)) (y_rm M n a 3) 6) = MC
        rw [y_rm_o ha6 (by omega), y_rm_o ha6 (by omega), y_rm_o ha6 (by omega), y_rm_o ha6 (by omega), hMC]
      · refine m0 _ _ _ (r181_7T (by rw [ex, e62, q2]; omega) (by rw [ex, e62, q2]; omega) (r181_14 (recd MC (by rw [e56])) (r181_16 ?_)))
        have e0 : y_rec MC n = fx_set (y_rec MC n) 57 (fun k => if k < 0 then M 61 (150 * x + k) else M 57 k) := by
          have : (fun k => if k < 0 then M 61 (150 * x + k) else M 57 k) = y_rec MC n 57 := by funext k; rw [if_neg (by omega), r57]
          rw [this, fx_self]
        refine Ev.memL e0 ?_
        have n61 : ∀ f, (fx_set (y_rec MC n) 57 f) 61 = M 61 := fun f => by rw [fx_sn (by omega)]; exact r61
        refine Ev.loop 150 (fun c => [fx_f 56, .inl (x : Int), .inl (c : Int)]) (fun c => fx_set (y_rec MC n) 57 (fun k => if k < c then M 61 (150 * x + k) else M 57 k)) (fun c hc k => ?_) (r181_18T (by omega) (by omega) (by rw [← hMM]; exact r181_35 ms r181_38))
        refine r181_18F (by omega) (by omega) (r181_21 (by omega) (Ev.memL ?_ k))
        rw [n61, fx_ss, fx_sk, show (c : Int).toNat = c by omega, show (150 * (x : Int) + (c : Int)).toNat = 150 * x + c by omega]
        congr 1
        funext q
        show (if q = c then M 61 (150 * x + c) else if q < c then M 61 (150 * x + q) else M 57 q) = if q < c + 1 then M 61 (150 * x + q) else M 57 q
        by_cases g1 : q = c
        · rw [if_pos g1, if_pos (by omega), g1]
        · rw [if_neg g1]
          by_cases g2 : q < c
          · rw [if_pos g2, if_pos (by omega)]
          · rw [if_neg g2, if_neg (by omega)]
  · exact OP_read hI (r37_0 (ev_isSlot_n h1 (by omega)) (r37_2F (by omega) rfl r37_3)) (frC_r M) (r181_0 (evm_in_n (by omega) h1 (by decide) (by decide)) (r181_4F (by omega) rfl r181_5)) (frM_r M) (by decide)
end CH6

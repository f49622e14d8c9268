section CH5
variable {X : fx_Sc} {M M' : fx_M}
theorem op_wipe (hI : cI M) : OP X M 32 177 [fx_u] [fx_u] := by
  obtain ⟨hs, hh, hk, n, p1, p2, p3, p4⟩ := hI
  obtain ⟨MC, hMC⟩ : ∃ MC : fx_M, MC = fx_set M 17 (fx_up (M 17) 1 0) := ⟨_, rfl⟩
  obtain ⟨MM, hMM⟩ : ∃ MM : fx_M, MM = fx_set MC 56 (fx_up (MC 56) 15 0) := ⟨_, rfl⟩
  have e : ∀ r, r ≠ 17 → r ≠ 56 → MM r = M r := fun r h1 h2 => by rw [hMM, fx_sn h2, hMC, fx_sn h1]
  have e56 : MC 56 = M 56 := by rw [hMC, fx_sn (by omega)]
  have hr : pR (M 17 1) := by constructor <;> omega
  refine ⟨M 17 1, MC, MM, r32_0 r71_0 (r32_3 (by rw [hMC]; exact r70_0) r32_7), ?_, ⟨sE_f hs (e 2 (by omega) (by omega)) (e 3 (by omega) (by omega)) (e 57 (by omega) (by omega)), hI_f hh (fun q _ _ => e q (by omega) (by omega)) (e 60 (by omega) (by omega)) ?_, kI_f hk (fun q _ _ => e q (by omega) (by omega)) (e 61 (by omega) (by omega)) (e 62 (by omega) (by omega)), 0, by omega, ?_, ?_, fun k hk => by omega⟩, hr⟩
  · have w := r177_0 (X := X) (M := MC)
    rw [← hMM, e56, p3, ← p2] at w
    exact w
  · rw [hMM, fx_sk, fx_upn _ _ (by omega), e56]
  · rw [hMM, fx_sn (by omega), hMC, fx_sk, fx_upk]; rfl
  · rw [hMM, fx_sk, fx_upk]; rfl
theorem op_undo (hI : cI M) : OP X M 34 179 [] [fx_u] := by
  obtain ⟨hs, ⟨n, a, hn, ha, h16, h1, h2, hS⟩, hk, hp⟩ := id hI
  by_cases h0 : n = 0
  · subst h0
    exact OP_read hI (r34_0 r39_0 (r34_3F (by rw [h1]; omega) (by rw [h1]; rfl) r34_4)) (frC_r M) (r179_0F (by rw [h16]; omega) (by rw [h16]; rfl) r179_3) (frM_r M) (by decide)
  · obtain ⟨m, rfl⟩ : ∃ m, n = m + 1 := ⟨n - 1, by omega⟩
    obtain ⟨b, hb⟩ : ∃ b, b = (a + 5) % 6 := ⟨_, rfl⟩
    have hb6 : b < 6 := by omega
    have hq := hS m (by omega)
    rw [show (a + 6 - (m + 1) + m) % 6 = b by omega] at hq
    have hrem : fx_rem ((a : Int) + 6 - 1) 6 = (b : Int) := by
      have := pb_rem (a := a + 5) (d := 6) (by omega) (by omega) (by omega)
      rw [show (a : Int) + 6 - 1 = ((a + 5 : Nat) : Int) by push_cast; omega, hb]
      exact this
    obtain ⟨MG, hMG⟩ : ∃ MG : fx_M, MG = fx_set (fx_set M 2 (z_cpy (M (21 + 4 * b + 1)) (M 2) 144)) 3 (z_cpy (M (21 + 4 * b + 2)) (M 3) 6) := ⟨_, rfl⟩
    obtain ⟨MC, hMC⟩ : ∃ MC : fx_M, MC = fx_set MG 19 (fx_up (fx_up (M 19) 2 (b : Int)) 1 (m : Int)) := ⟨_, rfl⟩
    have g19 : MG 19 = M 19 := by rw [hMG, fx_sn (by omega), fx_sn (by omega)]
    obtain ⟨MM, hMM⟩ : ∃ MM : fx_M, MM = fx_set (fx_set MC 56 (fx_up (MC 56) 16 (m : Int))) 57 (fun k => if k < 150 then M 60 (150 * m + k) else M 57 k) := ⟨_, rfl⟩
    have eC : ∀ r, r ≠ 2 → r ≠ 3 → r ≠ 19 → MC r = M r := fun r q1 q2 q3 => by rw [hMC, fx_sn q3, hMG, fx_sn q2, fx_sn q1]
    have eM : ∀ r, r ≠ 2 → r ≠ 3 → r ≠ 19 → r ≠ 56 → r ≠ 57 → MM r = M r := fun r q1 q2 q3 q4 q5 => by rw [hMM, fx_sn q5, fx_sn q4, eC r q1 q2 q3]
    refine ⟨(m : Int), MC, MM, ?_, ?_, ⟨sE_mv hq isS1 (fun k hk => ?_) (fun p hp => ?_) (fun k hk => ?_), ⟨m, b, by omega, hb6, ?_, ?_, ?_, fun i hi => ?_⟩, kI_f hk (fun q _ _ => eM q (by omega) (by omega) (by omega) (by omega) (by omega)) (eM 61 (by omega) (by omega) (by omega) (by omega) (by omega)) (eM 62 (by omega) (by omega) (by omega) (by omega) (by omega)), pI_f hp (eM 17 (by omega) (by omega) (by omega) (by omega) (by omega)) (eM 18 (by omega) (by omega) (by omega) (by omega) (by omega)) ?_ (eM 70 (by omega) (by omega) (by omega) (by omega) (by omega))⟩, by constructor <;> omega⟩
    · have c19 : MC 19 1 = (m : Int) := by rw [hMC, fx_sk, fx_upk]
      have s39 := r39_0 (X := X) (M := MC)
      rw [c19] at s39
      refine r34_0 r39_0 (r34_3T (by rw [h1]; omega) (by rw [h1]; omega) (r34_6 (r40_0 (by rw [h2, hrem]; exact ev_stateAt hb6) (r40_12T (by rw [h1]; omega) (by rw [h1]; omega) (r40_19 isS1 (ev_copyFrom isS1 (isS_st b hb6) (by omega)) (Ev.mem ?_ r40_22)))) (r34_11 s39 r34_14)))
      · show fx_set (fx_set (fx_set (fx_set M 2 (z_cpy (M (21 + 4 * b + 1)) (M 2) 144)) 3 (z_cpy (M (21 + 4 * b + 2)) (M 3) 6)) 19 _) 19 _ = MC
        rw [← hMG, fx_ss, fx_sk, h2, hrem, g19, fx_upn _ _ (by omega), h1, hMC]
        congr 2
        push_cast
        omega
    · have e56 : MC 56 = M 56 := eC 56 (by omega) (by omega) (by omega)
      have e60 : MC 60 = M 60 := eC 60 (by omega) (by omega) (by omega)
      have e57 : MC 57 = M 57 := eC 57 (by omega) (by omega) (by omega)
      have v16 : MC 56 16 - 1 = (m : Int) := by rw [e56, h16]; push_cast; omega
      refine r179_0T (by rw [e56, h16]; omega) (by rw [e56, h16]; omega) (r179_5 ?_)
      rw [v16]
      obtain ⟨MN, hMN⟩ : ∃ MN : fx_M, MN = fx_set MC 56 (fx_up (MC 56) 16 (m : Int)) := ⟨_, rfl⟩
      rw [← hMN] at hMM ⊢
      have n16 : MN 56 16 = (m : Int) := by rw [hMN, fx_sk, fx_upk]
      have n60 : MN 60 = M 60 := by rw [hMN, fx_sn (by omega), e60]
      have n57 : MN 57 = M 57 := by rw [hMN, fx_sn (by omega), e57]
      have e0 : MN = fx_set MN 57 (fun k => if k < 0 then M 60 (150 * m + k) else M 57 k) := by
        have : (fun k => if k < 0 then M 60 (150 * m + k) else M 57 k) = MN 57 := by funext k; rw [if_neg (by omega), n57]
        rw [this, fx_self]
      refine Ev.memL e0 ?_
      have n16' : ∀ f, (fx_set MN 57 f) 56 16 = (m : Int) := fun f => by rw [fx_sn (by omega)]; exact n16
      have n60' : ∀ f, (fx_set MN 57 f) 60 = M 60 := fun f => by rw [fx_sn (by omega)]; exact n60
      refine Ev.loop 150 (fun c => [fx_f 56, .inl (c : Int)]) (fun c => fx_set MN 57 (fun k => if k < c then M 60 (150 * m + k) else M 57 k)) (fun c hc k => ?_) (r179_13T (by omega) (by omega) ?_)
      · refine r179_13F (by omega) (by omega) (r179_16 (by rw [n16']; omega) (Ev.memL ?_ k))
        rw [n16', n60', fx_ss, fx_sk, show (c : Int).toNat = c by omega, show (150 * (m : Int) + (c : Int)).toNat = 150 * m + c by omega]
        congr 1
        funext q
        show (if q = c then M 60 (150 * m + c) else if q < c then M 60 (150 * m + q) else M 57 q) = if q < c + 1 then M 60 (150 * m + q) else M 57 q
        by_cases g1 : q = c
        · rw [if_pos g1, if_pos (by omega), g1]
        · rw [if_neg g1]
          by_cases g2 : q < c
          · rw [if_pos g2, if_pos (by omega)]
          · rw [if_neg g2, if_neg (by omega)]
      · have w := r179_31 (X := X) (M := fx_set MN 57 (fun k => if k < 150 then M 60 (150 * m + k) else M 57 k)) (x1 := ((150 : Nat) : Int))
        rw [n16', ← hMM] at w
        rw [← hMM]
        exact w
    · rw [hMM, fx_sn (by omega), fx_sn (by omega), hMC, fx_sn (by omega), hMG, fx_sn (by omega), fx_sk]
      unfold z_cpy
      rw [if_pos hk]
    · rw [hMM, fx_sn (by omega), fx_sn (by omega), hMC, fx_sn (by omega), hMG, fx_sk]
      unfold z_cpy
      rw [if_pos hp]
    · rw [hMM, fx_sk, Nat.zero_add]
      show (if k < 150 then M 60 (150 * m + k) else M 57 k) = _
      rw [if_pos hk]
    · rw [hMM, fx_sn (by omega), fx_sk, fx_upk]
    · rw [hMM, fx_sn (by omega), fx_sn (by omega), hMC, fx_sk, fx_upk]
    · rw [hMM, fx_sn (by omega), fx_sn (by omega), hMC, fx_sk, fx_upn _ _ (by omega), fx_upk]
    · have := hS i (by omega)
      rw [show (a + 6 - (m + 1) + i) % 6 = (b + 6 - m + i) % 6 by omega] at this
      exact sE_f this (eM _ (by omega) (by omega) (by omega) (by omega) (by omega)) (eM _ (by omega) (by omega) (by omega) (by omega) (by omega)) (eM 60 (by omega) (by omega) (by omega) (by omega) (by omega))
    · rw [hMM, fx_sn (by omega), fx_sk, fx_upn _ _ (by omega), eC 56 (by omega) (by omega) (by omega)]
end CH5

/-! a change is remembered by both -/
theorem isS1 : fd_isS 1 := ⟨rfl, rfl, rfl, rfl⟩
theorem y_rec_o {M : fx_M} {n r : Nat} (h1 : r ≠ 60) (h2 : r ≠ 56) : y_rec M n r = M r := by
  unfold y_rec
  split
  · rw [fx_sn h2, fx_sn h1]
  · rw [fx_sn h2, fx_sn h1]
theorem y_rec_60 {M : fx_M} {n : Nat} : y_rec M n 60 = if n < 6 then y_put (M 60) (M 57) n 150 else y_put (y_shf (M 60) 750) (M 57) 5 150 := by
  unfold y_rec
  split <;> rfl
theorem y_rec_16 {M : fx_M} {n : Nat} (hn : n ≤ 6) : y_rec M n 56 16 = ((min 6 (n + 1) : Nat) : Int) := by
  unfold y_rec
  split
  · show (if 16 = 16 then (n : Int) + 1 else M 56 16) = _
    rw [if_pos rfl]; omega
  · show (if 16 = 16 then (6 : Int) else M 56 16) = _
    rw [if_pos rfl]; omega
theorem y_rec_56 {M : fx_M} {n k : Nat} (hk : k ≠ 16) : y_rec M n 56 k = M 56 k := by
  unfold y_rec
  split
  · show (if k = 16 then (n : Int) + 1 else M 56 k) = _
    rw [if_neg hk]
  · show (if k = 16 then (6 : Int) else M 56 k) = _
    rw [if_neg hk]
theorem y_rm_1 {M : fx_M} {n a : Nat} : y_rm M n a (21 + 4 * a + 1) = z_cpy (M 2) (M (21 + 4 * a + 1)) 144 := by
  unfold y_rm
  rw [fx_sn (by omega), fx_sn (by omega), fx_sk]
theorem y_rm_2 {M : fx_M} {n a : Nat} : y_rm M n a (21 + 4 * a + 2) = z_cpy (M 3) (M (21 + 4 * a + 2)) 6 := by
  unfold y_rm
  rw [fx_sn (by omega), fx_sk]
theorem y_rm_n {M : fx_M} {n a r : Nat} (h1 : r ≠ 21 + 4 * a + 1) (h2 : r ≠ 21 + 4 * a + 2) (h3 : r ≠ 19) : y_rm M n a r = M r := by
  unfold y_rm
  rw [fx_sn h3, fx_sn h2, fx_sn h1]
theorem y_rm_19 {M : fx_M} {n a : Nat} : y_rm M n a 19 1 = ((min 6 (n + 1) : Nat) : Int) ∧ y_rm M n a 19 2 = (((a + 1) % 6 : Nat) : Int) := by
  unfold y_rm
  rw [fx_sk]
  exact ⟨fx_upk _ _ _, by rw [fx_upn _ _ (by omega), fx_upk]⟩
theorem hI_rec {M MM : fx_M} {n a : Nat} (hs : sE M 1 57 0) (hn : n ≤ 6) (ha : a < 6) (hS : ∀ i, i < n → sE M (21 + 4 * ((a + 6 - n + i) % 6)) 60 (150 * i)) (c : ∀ r, 19 ≤ r → r ≤ 44 → MM r = y_rm M n a r) (m16 : MM 56 16 = ((min 6 (n + 1) : Nat) : Int))
    (m60 : MM 60 = if n < 6 then y_put (M 60) (M 57) n 150 else y_put (y_shf (M 60) 750) (M 57) 5 150) : hI MM := by
  refine ⟨min 6 (n + 1), (a + 1) % 6, by omega, by omega, m16, by rw [c 19 (by omega) (by omega)]; exact y_rm_19.1, by rw [c 19 (by omega) (by omega)]; exact y_rm_19.2, fun i hi => ?_⟩
  by_cases hl : i = min 6 (n + 1) - 1
  · have e : ((a + 1) % 6 + 6 - min 6 (n + 1) + i) % 6 = a := by omega
    rw [e]
    refine sE_mv hs (isS_st a ha) (fun k hk => ?_) (fun p hp => ?_) (fun k hk => ?_)
    · rw [c _ (by omega) (by omega), y_rm_1]
      unfold z_cpy
      rw [if_pos hk]
    · rw [c _ (by omega) (by omega), y_rm_2]
      unfold z_cpy
      rw [if_pos hp]
    · rw [m60]
      by_cases h6 : n < 6
      · have ei : i = n := by omega
        rw [if_pos h6, ei]
        unfold y_put
        rw [if_pos (by omega)]
        congr 1
        omega
      · have ei : i = 5 := by omega
        rw [if_neg h6, ei]
        unfold y_put
        rw [if_pos (by omega), show 150 * 5 + k - 150 * 5 = 0 + k by omega]
  · by_cases h6 : n < 6
    · have e : ((a + 1) % 6 + 6 - min 6 (n + 1) + i) % 6 = (a + 6 - n + i) % 6 := by omega
      rw [e]
      have ne : (a + 6 - n + i) % 6 ≠ a := by omega
      have lt : (a + 6 - n + i) % 6 < 6 := by omega
      refine sE_mv (hS i (by omega)) (isS_st _ lt) (fun k hk => ?_) (fun p hp => ?_) (fun k hk => ?_)
      · rw [c _ (by omega) (by omega), y_rm_n (by omega) (by omega) (by omega)]
      · rw [c _ (by omega) (by omega), y_rm_n (by omega) (by omega) (by omega)]
      · rw [m60, if_pos h6]
        unfold y_put
        rw [if_neg (by omega)]
    · have e : ((a + 1) % 6 + 6 - min 6 (n + 1) + i) % 6 = (a + 6 - n + (i + 1)) % 6 := by omega
      rw [e]
      have ne : (a + 6 - n + (i + 1)) % 6 ≠ a := by omega
      have lt : (a + 6 - n + (i + 1)) % 6 < 6 := by omega
      refine sE_mv (hS (i + 1) (by omega)) (isS_st _ lt) (fun k hk => ?_) (fun p hp => ?_) (fun k hk => ?_)
      · rw [c _ (by omega) (by omega), y_rm_n (by omega) (by omega) (by omega)]
      · rw [c _ (by omega) (by omega), y_rm_n (by omega) (by omega) (by omega)]
      · rw [m60, if_neg h6]
        unfold y_put
        rw [if_neg (by omega)]
        unfold y_shf
        rw [if_pos (by omega)]
        congr 1
        omega
section CHG
variable {X : fx_Sc} {M M' : fx_M}
/-- what both remember, and what is left to show -/
theorem chg_D (h : cI M) : ∃ n a : Nat, a < 6 ∧ Ev X 38 0 [fx_f 19, fx_f 1, fx_u] [] M none (y_rm M n a) ∧ (∀ MC : fx_M, MC 56 16 = M 56 16 → Ev X 119 0 [fx_f 56, fx_u] [] MC none (y_rec MC n)) ∧
    (∀ MC MM : fx_M, (∀ r, 4 < r → r ≠ 17 → MC r = y_rm M n a r) → (∀ r, r ≠ 56 → r ≠ 57 → r ≠ 58 → r ≠ 69 → MM r = y_rec MC n r) → MM 56 16 = y_rec MC n 56 16 → sE MM 1 57 0 → pI MM → cI MM) := by
  obtain ⟨hs, ⟨n, a, hn, ha, h16, h1, h2, hS⟩, hk, hp⟩ := h
  refine ⟨n, a, ha, ev_remember hs.1 hn ha h1 h2, fun MC e => evm_record (by rw [e]; exact h16) hn, fun MC MM hC hM m16 hs2 hp2 => ⟨hs2, ?_, ?_, hp2⟩⟩
  · refine hI_rec hs hn ha hS (fun r r1 r2 => ?_) (by rw [m16]; exact y_rec_16 hn) ?_
    · rw [hM r (by omega) (by omega) (by omega) (by omega), y_rec_o (by omega) (by omega), hC r (by omega) (by omega)]
    · rw [hM 60 (by omega) (by omega) (by omega) (by omega), y_rec_60, hC 60 (by omega) (by omega), hC 57 (by omega) (by omega), y_rm_o ha (by omega), y_rm_o ha (by omega)]
  · have e : ∀ r, 44 < r → r ≠ 56 → r ≠ 57 → r ≠ 58 → r ≠ 60 → r ≠ 69 → MM r = M r := fun r r1 r2 r3 r4 r5 r6 => by rw [hM r r2 r3 r4 r6, y_rec_o r5 r2, hC r (by omega) (by omega), y_rm_o ha (by omega)]
    exact kI_f hk (fun q q1 q2 => e q (by omega) (by omega) (by omega) (by omega) (by omega) (by omega)) (e 61 (by omega) (by omega) (by omega) (by omega) (by omega) (by omega)) (e 62 (by omega) (by omega) (by omega) (by omega) (by omega) (by omega))
theorem sE_mk {MM : fx_M} (h1 : ∀ k, k < 144 → -1 ≤ MM 2 k ∧ MM 2 k < 24) (h2 : ∀ p, p < 6 → 0 ≤ MM 3 p ∧ MM 3 p < 6) (h3 : z_inv (MM 2)) (h4 : ∀ k, k < 144 → MM 57 k = MM 2 k + 1) (h5 : ∀ p, p < 6 → MM 57 (144 + p) = MM 3 p) : sE MM 1 57 0 :=
  ⟨⟨isS1, h1, h2⟩, h3, fun k hk => by rw [Nat.zero_add]; exact h4 k hk, fun p hp => by rw [Nat.zero_add]; exact h5 p hp⟩
/-- a change of the strip: the class makes O' and H' of its rows, the reference s' -/
theorem chg_fin {n a : Nat} {MC MM : fx_M} {O' H' s' : Nat → Int} (hI : cI M) (ha : a < 6)
    (fin : ∀ MC MM : fx_M, (∀ r, 4 < r → r ≠ 17 → MC r = y_rm M n a r) → (∀ r, r ≠ 56 → r ≠ 57 → r ≠ 58 → r ≠ 69 → MM r = y_rec MC n r) → MM 56 16 = y_rec MC n 56 16 → sE MM 1 57 0 → pI MM → cI MM)
    (hC : ∀ r, 4 < r → MC r = y_rm M n a r) (hC2 : MC 2 = O') (hC3 : MC 3 = H') (hM : ∀ r, r ≠ 57 → r ≠ 58 → MM r = y_rec MC n r) (hM57 : MM 57 = s')
    (h1 : ∀ k, k < 144 → -1 ≤ O' k ∧ O' k < 24) (h2 : ∀ p, p < 6 → 0 ≤ H' p ∧ H' p < 6) (h3 : z_inv O') (h4 : ∀ k, k < 144 → s' k = O' k + 1) (h5 : ∀ p, p < 6 → s' (144 + p) = H' p) : cI MM ∧ pS MC 1 ∧ ph MM 1 = ph MC 1 := by
  have e2 : MM 2 = O' := by rw [hM 2 (by omega) (by omega), y_rec_o (by omega) (by omega), hC2]
  have e3 : MM 3 = H' := by rw [hM 3 (by omega) (by omega), y_rec_o (by omega) (by omega), hC3]
  have hs : sE MM 1 57 0 := sE_mk (by rw [e2]; exact h1) (by rw [e3]; exact h2) (by rw [e2]; exact h3) (by rw [e2, hM57]; exact h4) (by rw [e3, hM57]; exact h5)
  have e : ∀ r, (16 < r ∧ r < 19) ∨ r = 70 → MM r = M r := fun r hr => by rw [hM r (by omega) (by omega), y_rec_o (by omega) (by omega), hC r (by omega), y_rm_o ha (by omega)]
  have e15 : MM 56 15 = M 56 15 := by rw [hM 56 (by omega) (by omega), y_rec_56 (by omega), hC 56 (by omega), y_rm_o ha (by omega)]
  refine ⟨fin MC MM (fun r h _ => hC r h) (fun r _ r1 r2 _ => hM r r1 r2) (by rw [hM 56 (by omega) (by omega)]) hs (pI_f hI.2.2.2 (e 17 (by omega)) (e 18 (by omega)) e15 (e 70 (by omega))), ⟨isS1, ?_, ?_⟩, ?_⟩
  · intro k hk
    show -1 ≤ MC 2 k ∧ MC 2 k < 24
    rw [hC2]; exact h1 k hk
  · intro k hk
    show 0 ≤ MC 3 k ∧ MC 3 k < 6
    rw [hC3]; exact h2 k hk
  · funext k
    show decide (MM 2 k ≠ -1) = decide (MC 2 k ≠ -1)
    rw [e2, hC2]
theorem op_join {x1 x2 x3 : Int} (hI : cI M) (h1 : pR x1) (h2 : pR x2) (h3 : pR x3) : OP X M 8 114 [.inl x1, .inl x2, .inl x3] [.inl x1, .inl x2, .inl x3] := by
  obtain ⟨S1, S2, hA, hO, hH, hi, hi2, hz, hz2⟩ := sD_of hI.1
  by_cases hp : (0 ≤ x1 ∧ x1 < 6) ∧ (0 ≤ x2 ∧ x2 < 24) ∧ (0 ≤ x3 ∧ x3 < 24)
  · obtain ⟨p, rfl⟩ := nat_of hp.1.1
    obtain ⟨e, rfl⟩ := nat_of hp.2.1.1
    obtain ⟨o, rfl⟩ := nat_of hp.2.2.1
    have hp6 : p < 6 := by omega
    have he : e < 24 := by omega
    have ho : o < 24 := by omega
    have ee : 24 * (p : Int) + (e : Int) = ((24 * p + e : Nat) : Int) := by push_cast; rfl
    have eo : 24 * (p : Int) + (o : Int) = ((24 * p + o : Nat) : Int) := by push_cast; rfl
    have c0 : ∀ z M', Ev X 8 11 [fx_f 0, .inl (p : Int), .inl (e : Int), .inl (o : Int)] [] M (some (.inl z)) M' → Ev X 8 0 [fx_f 0, .inl (p : Int), .inl (e : Int), .inl (o : Int)] [] M (some (.inl z)) M' := fun z M' k => r8_0 (ev_isPanel_y hp.1) (r8_2F (by omega) (by omega) (r8_3 (ev_isEnd_y hp.2.1) (r8_5F (by omega) (by omega) (r8_6 (ev_isEnd_y hp.2.2) (r8_8T (by omega) (by omega) k)))))
    have m0 : ∀ (M1 : fx_M) z M', Ev X 114 10 [fx_f 56, .inl (p : Int), .inl (e : Int), .inl (o : Int)] [] M1 (some (.inl z)) M' → Ev X 114 0 [fx_f 56, .inl (p : Int), .inl (e : Int), .inl (o : Int)] [] M1 (some (.inl z)) M' := fun M1 z M' k => r114_0 (evm_isEnd_y hp.1 hp.2.1) (r114_3F (by omega) (by omega) (r114_4 (evm_isEnd_y hp.1 hp.2.2) (r114_7T (by omega) (by omega) k)))
    by_cases heo : e = o
    · exact OP_read hI (c0 _ _ (r8_11F ⟨h2, h3⟩ (by omega) r8_14)) (frC_r M) (m0 _ _ _ (r114_10F ⟨h2, h3⟩ (by omega) r114_13)) (frM_r M) (by decide)
    have c1 : ∀ z M', Ev X 8 22 [fx_f 0, .inl (p : Int), .inl (e : Int), .inl (o : Int)] [.inl (if ph M 1 (24 * p + e) = true then 1 else 0)] M (some (.inl z)) M' → Ev X 8 0 [fx_f 0, .inl (p : Int), .inl (e : Int), .inl (o : Int)] [] M (some (.inl z)) M' := fun z M' k => c0 z M' (r8_11T ⟨h2, h3⟩ (by omega) (r8_16 ev_placeOf (r8_21 (ev_hasN S1 (by omega)) k)))
    have m1 : ∀ (M1 : fx_M) (T : mS M1) z M', Ev X 114 22 [fx_f 56, .inl (p : Int), .inl (e : Int), .inl (o : Int)] [.inl (if mh M1 (24 * p + e) = true then 1 else 0)] M1 (some (.inl z)) M' → Ev X 114 0 [fx_f 56, .inl (p : Int), .inl (e : Int), .inl (o : Int)] [] M1 (some (.inl z)) M' := fun M1 T z M' k => m0 M1 z M' (r114_10T ⟨h2, h3⟩ (by omega) (r114_15 (by rw [ee]; exact evm_has T (by omega)) k))
    have he1 : mh M (24 * p + e) = ph M 1 (24 * p + e) := (hA _ (by omega)).symm
    have ho1 : mh M (24 * p + o) = ph M 1 (24 * p + o) := (hA _ (by omega)).symm
    by_cases ha : ph M 1 (24 * p + e) = true
    · have m2 := m1 M S2
      rw [he1, if_pos ha] at m2
      rw [if_pos ha] at c1
      exact OP_read hI (c1 _ _ (r8_22T (by omega) (by omega) r8_30)) (frC_r M) (m2 _ _ (r114_22T (by omega) (by omega) r114_31)) (frM_r M) (by decide)
    by_cases hb : ph M 1 (24 * p + o) = true
    · have m2 := m1 M S2
      rw [he1, if_neg ha] at m2
      rw [if_neg ha] at c1
      have hc := ev_hasN (X := X) S1 (show 24 * p + o < 144 by omega)
      rw [if_pos hb] at hc
      have hm := evm_has (X := X) S2 (show 24 * p + o < 144 by omega)
      rw [ho1, if_pos hb] at hm
      exact OP_read hI (c1 _ _ (r8_22F (by omega) rfl (r8_23 ev_placeOf (r8_28 hc (r8_29F (by omega) (by omega) r8_30))))) (frC_r M) (m2 _ _ (r114_22F (by omega) rfl (r114_23 (by rw [eo]; exact hm) (r114_30F (by omega) (by omega) r114_31)))) (frM_r M) (by decide)
    obtain ⟨n, a, ha6, rem, recd, fin⟩ := chg_D (X := X) hI
    have hfe : M 2 (24 * p + e) = -1 := by
      apply Classical.byContradiction
      intro q
      exact ha (decide_eq_true q)
    have hfo : M 2 (24 * p + o) = -1 := by
      apply Classical.byContradiction
      intro q
      exact hb (decide_eq_true q)
    obtain ⟨MC, hMC⟩ : ∃ MC : fx_M, MC = fx_set (y_rm M n a) 2 (z_lnk (M 2) p e o) := ⟨_, rfl⟩
    have C : ∀ r, 4 < r → MC r = y_rm M n a r := fun r hr => by rw [hMC, fx_sn (by omega)]
    have C2 : MC 2 = z_lnk (M 2) p e o := by rw [hMC, fx_sk]
    have C3 : MC 3 = M 3 := by rw [hMC, fx_sn (by omega), y_rm_o ha6 (by omega)]
    have e57 : MC 57 = M 57 := by rw [C 57 (by omega), y_rm_o ha6 (by omega)]
    have e56 : MC 56 = M 56 := by rw [C 56 (by omega), y_rm_o ha6 (by omega)]
    obtain ⟨MM, hMM⟩ : ∃ MM : fx_M, MM = fx_set (y_rec MC n) 57 (y_lnk (M 57) p e o) := ⟨_, rfl⟩
    have rg := z_lnk_rg (p := p) S1.2.1 he ho
    obtain ⟨f1, f2, f3⟩ := chg_fin (O' := z_lnk (M 2) p e o) (H' := M 3) (s' := y_lnk (M 57) p e o) (MM := MM) hI ha6 fin C C2 C3 (fun r r1 r2 => by rw [hMM, fx_sn r1]) (by rw [hMM, fx_sk]) rg S1.2.2 (z_inv_lnk hi he ho heo hfe hfo) (fun k hk => by
      show (if k = 24 * p + o then (e : Int) + 1 else if k = 24 * p + e then (o : Int) + 1 else M 57 k) = (if k = 24 * p + o then (e : Int) else if k = 24 * p + e then (o : Int) else M 2 k) + 1
      have := hO k hk
      unfold mO at this
      split
      · rfl
      · split
        · rfl
        · omega) (fun q hq => by
      show (if 144 + q = 24 * p + o then (e : Int) + 1 else if 144 + q = 24 * p + e then (o : Int) + 1 else M 57 (144 + q)) = M 3 q
      rw [if_neg (by omega), if_neg (by omega)]
      exact hH q hq)
    have D := sD_of f1.1
    have ez : z_str (mh MM) p = z_str (ph MC 1) p := by rw [← f3, z_str_x D.2.2.1 hp6]
    have b := z_str_b (ph MC 1) p
    refine ⟨(z_str (ph MC 1) p : Int), MC, MM, ?_, ?_, f1, by constructor <;> omega⟩
    · rw [if_neg ha] at c1
      have hc := ev_hasN (X := X) S1 (show 24 * p + o < 144 by omega)
      rw [if_neg hb] at hc
      refine c1 _ _ (r8_22F (by omega) rfl (r8_23 ev_placeOf (r8_28 hc (r8_29T (by omega) rfl (r8_32 rem (r8_37 (Ev.mem ?_ (ev_link isS1 hp6 he ho)) (r8_43 (ev_strokesIn f2 hp6) r8_47)))))))
      rw [hMC]
      show fx_set (y_rm M n a) 2 (z_lnk (y_rm M n a 2) p e o) = _
      rw [y_rm_o ha6 (by omega)]
    · have T : mS MC := mS_f S2 e57
      have eh : mh MC = mh M := by unfold mh; rw [e57]
      have m2 := m1 MC T
      rw [eh, he1, if_neg ha] at m2
      have hm := evm_has (X := X) T (show 24 * p + o < 144 by omega)
      rw [eh, ho1, if_neg hb] at hm
      have ms := evm_strokesOf (X := X) (M := MM) D.2.1 hp6
      rw [ez] at ms
      refine m2 _ _ (r114_22F (by omega) rfl (r114_23 (by rw [eo]; exact hm) (r114_30T (by omega) rfl (r114_33 (recd MC (by rw [e56])) (r114_35 (Ev.mem ?_ (evm_joins hp6 he ho)) (r114_40 ms r114_43))))))
      rw [hMM, y_rec_o (by omega) (by omega), e57]
  · refine OP_read (z := -1) hI ?_ (frC_r M) ?_ (frM_r M) (by decide)
    · by_cases q1 : 0 ≤ x1 ∧ x1 < 6
      · by_cases q2 : 0 ≤ x2 ∧ x2 < 24
        · exact r8_0 (ev_isPanel_y q1) (r8_2F (by omega) (by omega) (r8_3 (ev_isEnd_y q2) (r8_5F (by omega) (by omega) (r8_6 (ev_isEnd_n h3 (by omega)) (r8_8F (by omega) rfl r8_9)))))
        · exact r8_0 (ev_isPanel_y q1) (r8_2F (by omega) (by omega) (r8_3 (ev_isEnd_n h2 (by omega)) (r8_5T (by omega) rfl r8_9)))
      · exact r8_0 (ev_isPanel_n h1 (by omega)) (r8_2T (by omega) rfl r8_9)
    · by_cases q1 : (0 ≤ x1 ∧ x1 < 6) ∧ (0 ≤ x2 ∧ x2 < 24)
      · exact r114_0 (evm_isEnd_y q1.1 q1.2) (r114_3F (by omega) (by omega) (r114_4 (evm_isEnd_n h1 h3 (by omega)) (r114_7F (by omega) rfl r114_8)))
      · exact r114_0 (evm_isEnd_n h1 h2 (by omega)) (r114_3T (by omega) rfl r114_8)
end CHG

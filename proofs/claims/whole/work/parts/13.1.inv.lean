/-! both objects hold the same -/
def sE (M : fx_M) (a b t : Nat) : Prop := pS M a ∧ z_inv (M (a + 1)) ∧ (∀ k, k < 144 → M b (t + k) = M (a + 1) k + 1) ∧ ∀ p, p < 6 → M b (t + 144 + p) = M (a + 2) p
def hI (M : fx_M) : Prop := ∃ n a : Nat, n ≤ 6 ∧ a < 6 ∧ M 56 16 = (n : Int) ∧ M 19 1 = (n : Int) ∧ M 19 2 = (a : Int) ∧ ∀ i, i < n → sE M (21 + 4 * ((a + 6 - n + i) % 6)) 60 (150 * i)
def kI (M : fx_M) : Prop := ∀ i, i < 2 → (M 47 i = 0 ∧ M 62 i = 0) ∨ (M 47 i = 1 ∧ M 62 i = 1 ∧ sE M (48 + 4 * i) 61 (150 * i))
def pI (M : fx_M) : Prop := ∃ n : Nat, n ≤ 60 ∧ M 17 1 = (n : Int) ∧ M 56 15 = (n : Int) ∧ ∀ k, k < n → M 18 k = M 70 k ∧ 33 ≤ M 18 k ∧ M 18 k ≤ 126
def cI (M : fx_M) : Prop := sE M 1 57 0 ∧ hI M ∧ kI M ∧ pI M
theorem sE_f {M M' : fx_M} {a b t : Nat} (h : sE M a b t) (h1 : M' (a + 1) = M (a + 1)) (h2 : M' (a + 2) = M (a + 2)) (h3 : M' b = M b) : sE M' a b t := by
  obtain ⟨⟨g1, g2, g3⟩, g4, g5, g6⟩ := h
  refine ⟨⟨g1, ?_, ?_⟩, ?_, ?_, ?_⟩
  · rw [h1]; exact g2
  · rw [h2]; exact g3
  · rw [h1]; exact g4
  · rw [h1, h3]; exact g5
  · rw [h2, h3]; exact g6
theorem hI_f {M M' : fx_M} (h : hI M) (h1 : ∀ q, 19 ≤ q → q ≤ 44 → M' q = M q) (h2 : M' 60 = M 60) (h3 : M' 56 16 = M 56 16) : hI M' := by
  obtain ⟨n, a, g1, g2, g3, g4, g5, g6⟩ := h
  refine ⟨n, a, g1, g2, by rw [h3]; exact g3, by rw [h1 19 (by omega) (by omega)]; exact g4, by rw [h1 19 (by omega) (by omega)]; exact g5, fun i hi => sE_f (g6 i hi) (h1 _ (by omega) (by omega)) (h1 _ (by omega) (by omega)) h2⟩
theorem kI_f {M M' : fx_M} (h : kI M) (h1 : ∀ q, 47 ≤ q → q ≤ 55 → M' q = M q) (h2 : M' 61 = M 61) (h3 : M' 62 = M 62) : kI M' := by
  intro i hi
  rw [h1 47 (by omega) (by omega), h3]
  rcases h i hi with h | ⟨g1, g2, g3⟩
  · exact Or.inl h
  · exact Or.inr ⟨g1, g2, sE_f g3 (h1 _ (by omega) (by omega)) (h1 _ (by omega) (by omega)) h2⟩
theorem pI_f {M M' : fx_M} (h : pI M) (h1 : M' 17 = M 17) (h2 : M' 18 = M 18) (h3 : M' 56 15 = M 56 15) (h4 : M' 70 = M 70) : pI M' := by
  obtain ⟨n, g1, g2, g3, g4⟩ := h
  exact ⟨n, g1, by rw [h1]; exact g2, by rw [h3]; exact g3, fun k hk => by rw [h2, h4]; exact g4 k hk⟩
def frC (M' M : fx_M) : Prop := ∀ q, q < 5 ∨ 16 < q → M' q = M q
def frM (M' M : fx_M) : Prop := (∀ q, q < 56 ∨ (56 < q ∧ q ≠ 58 ∧ q ≠ 59 ∧ (q < 63 ∨ 69 < q)) → M' q = M q) ∧ ∀ k, k ≠ 14 → k ≠ 17 → k ≠ 18 → k ≠ 19 → M' 56 k = M 56 k
theorem frM_r (M : fx_M) : frM M M := ⟨fun _ _ => rfl, fun _ _ _ _ _ => rfl⟩
theorem cI_read {M M1 M2 : fx_M} (h : cI M) (h1 : frC M1 M) (h2 : frM M2 M1) : cI M2 := by
  obtain ⟨g1, g2, g3, g4⟩ := h
  have e : ∀ q, (q < 5 ∨ (16 < q ∧ q < 56) ∨ (56 < q ∧ q ≠ 58 ∧ q ≠ 59 ∧ (q < 63 ∨ 69 < q))) → M2 q = M q := fun q hq => by rw [h2.1 q (by omega), h1 q (by omega)]
  have e15 : M2 56 15 = M 56 15 := by rw [h2.2 15 (by omega) (by omega) (by omega) (by omega), h1 56 (by omega)]
  have e16 : M2 56 16 = M 56 16 := by rw [h2.2 16 (by omega) (by omega) (by omega) (by omega), h1 56 (by omega)]
  exact ⟨sE_f g1 (e 2 (by omega)) (e 3 (by omega)) (e 57 (by omega)), hI_f g2 (fun q _ _ => e q (by omega)) (e 60 (by omega)) e16, kI_f g3 (fun q _ _ => e q (by omega)) (e 61 (by omega)) (e 62 (by omega)), pI_f g4 (e 17 (by omega)) (e 18 (by omega)) e15 (e 70 (by omega))⟩
/-- what the two rows of the figure have in common -/
def sD (M : fx_M) : Prop := pS M 1 ∧ mS M ∧ zA (ph M 1) (mh M) ∧ (∀ k, k < 144 → mO M k = M 2 k) ∧ (∀ p, p < 6 → mH M p = M 3 p) ∧ z_inv (M 2) ∧ z_inv (mO M) ∧ zr (M 2) ∧ zr (mO M)
theorem sD_of {M : fx_M} (h : sE M 1 57 0) : sD M := by
  obtain ⟨h1, h2, h3, h4⟩ := h
  have h3' : ∀ k, k < 144 → M 57 k = M 2 k + 1 := fun k hk => by have := h3 k hk; rwa [Nat.zero_add] at this
  have h4' : ∀ p, p < 6 → M 57 (144 + p) = M 3 p := fun p hp => by have := h4 p hp; rwa [Nat.zero_add] at this
  have hO : ∀ k, k < 144 → mO M k = M 2 k := fun k hk => by unfold mO; rw [h3' k hk]; omega
  have hr : ∀ k, k < 144 → -1 ≤ M 2 k ∧ M 2 k < 24 := h1.2.1
  have hb : ∀ p, p < 6 → 0 ≤ M 3 p ∧ M 3 p < 6 := h1.2.2
  have hi : z_inv (mO M) := by
    intro p e hp he
    rcases h2 p e hp he with q | ⟨o, q1, q2, q3, q4⟩
    · exact Or.inl (by rw [hO _ (by omega)]; exact q)
    · exact Or.inr ⟨o, q1, q2, by rw [hO _ (by omega)]; exact q3, by rw [hO _ (by omega)]; exact q4⟩
  refine ⟨h1, ⟨fun k hk => ?_, fun p hp => ?_⟩, fun k hk => ?_, hO, h4', h2, hi, ⟨hr, h2⟩, ⟨fun k hk => ?_, hi⟩⟩
  · have := hr k hk; have := h3' k hk; omega
  · have := hb p hp; have := h4' p hp; omega
  · show decide (M 2 k ≠ -1) = decide (0 < M 57 k)
    have := hr k hk
    rw [h3' k hk, decide_eq_decide]
    omega
  · have := hr k hk; rw [hO k hk]; omega
theorem sE_r {M M1 : fx_M} (h : sE M 1 57 0) (h1 : frC M1 M) : sE M1 1 57 0 := sE_f h (h1 2 (by omega)) (h1 3 (by omega)) (h1 57 (by omega))
section OPS
variable {X : fx_Sc} {M M' : fx_M}
def OP (X : fx_Sc) (M : fx_M) (j m : Nat) (L Lm : List fx_V) : Prop := ∃ (z : Int) (M1 M2 : fx_M), Ev X j 0 (fx_f 0 :: L) [] M (some (.inl z)) M1 ∧ Ev X m 0 (fx_f 56 :: Lm) [] M1 (some (.inl z)) M2 ∧ cI M2 ∧ pR z
theorem OP_read {j m : Nat} {L Lm : List fx_V} {z : Int} {M1 M2 : fx_M} (h : cI M) (h1 : Ev X j 0 (fx_f 0 :: L) [] M (some (.inl z)) M1) (f1 : frC M1 M) (h2 : Ev X m 0 (fx_f 56 :: Lm) [] M1 (some (.inl z)) M2) (f2 : frM M2 M1) (hz : pR z) : OP X M j m L Lm := ⟨z, M1, M2, h1, h2, cI_read h f1 f2, hz⟩
theorem frC_r (M : fx_M) : frC M M := fun _ _ => rfl
/-- the reference lays its lines -/
theorem lay_D {M1 : fx_M} (h : sE M 1 57 0) (f1 : frC M1 M) : ∃ M2, Ev X 149 0 [fx_f 56, fx_u, fx_u, fx_u] [] M1 none M2 ∧ mL (M 2) (M 3) M2 144 ∧ frM M2 M1 ∧ mS M2 ∧ M2 57 = M 57 ∧ mh M2 = mh M ∧ mO M2 = mO M ∧ mH M2 = mH M := by
  have D1 := sD_of (sE_r h f1)
  have D := sD_of h
  obtain ⟨M2, h1, h2, h3⟩ := evm_lay (X := X) D1.2.1 D1.2.2.2.2.2.2.2.2
  have e57 : M1 57 = M 57 := f1 57 (by omega)
  have e572 : M2 57 = M1 57 := h3.1 57 (by omega)
  have eO : mO M1 = mO M := mO_f e57
  have eH : mH M1 = mH M := by unfold mH; rw [e57]
  rw [eO, eH] at h2
  refine ⟨M2, h1, mL_x D.2.2.2.1 D.2.2.2.2.2.2.2.2 D.2.2.2.2.2.2.2.1 D.2.2.2.2.1 h2, ⟨fun q hq => h3.1 q (by omega), fun k hk _ _ _ => h3.2 k hk⟩, mS_f D1.2.1 e572, by rw [e572, e57], ?_, ?_, ?_⟩
  · unfold mh; rw [e572, e57]
  · rw [mO_f e572, eO]
  · unfold mH; rw [e572, e57]
theorem trace_D (h : sE M 1 57 0) : ∃ M1, Ev X 41 0 [fx_f 9, fx_f 1, fx_u] [] M none M1 ∧ cL (M 2) (M 3) M1 144 ∧ frC M1 M ∧ pS M1 1 := by
  have D := sD_of h
  obtain ⟨M1, h1, h2, h3⟩ := ev_trace (X := X) D.1 D.2.2.2.2.2.2.2.1
  exact ⟨M1, h1, h2, fun q hq => h3 q (by omega), pS_f D.1 (h3 2 (by omega)) (h3 3 (by omega))⟩
theorem y_ho_x {H H' : Nat → Int} (h : ∀ p, p < 6 → H p = H' p) (s : Nat) : y_ho H s = y_ho H' s := by
  unfold y_ho
  exact pb_o_ext fun i hi => by rw [h i hi]
theorem y_ho_lt {H : Nat → Int} (h : ∀ p, p < 6 → 0 ≤ H p ∧ H p < 6) (s : Nat) : y_ho H s < 64 := by
  unfold y_ho
  refine pb_o_lt (b := 6) fun i hi => ?_
  split
  · exact Nat.pow_lt_pow_right (by omega) (by have := h i hi; omega)
  · omega
theorem nat_of {x : Int} (h : 0 ≤ x) : ∃ n : Nat, x = (n : Int) := ⟨x.toNat, by omega⟩
theorem op_fold {x1 x2 : Int} (hI : cI M) (h1 : pR x1) (h2 : pR x2) : OP X M 20 161 [.inl x1, .inl x2] [.inl x1, .inl x2, fx_u] := by
  obtain ⟨S1, S2, hA, hO, hH, hi, hi2, hz, hz2⟩ := sD_of hI.1
  by_cases hp : 0 ≤ x1 ∧ x1 < 5
  · obtain ⟨p, rfl⟩ := nat_of hp.1
    have hp5 : p < 5 := by omega
    have mA : Ev X 157 0 [fx_f 56, .inl (24 * (p : Int) + 12), fx_u, fx_u] [] M (some (.inl (z_edge (ph M 1) (2 * p + 1) : Int))) M := by
      have e : (24 * (p : Int) + 12) = ((24 * p + 12 : Nat) : Int) := by push_cast; rfl
      rw [e, z_edge_x hA (by omega)]
      refine Ev.res ?_ (evm_columns S2 (by omega))
      unfold z_edge
      rw [pb_s_ext fun i hi => by rw [show 24 * p + 12 + i = 12 * (2 * p + 1) + i by omega]]
    have mB : Ev X 157 0 [fx_f 56, .inl (24 * (p : Int) + 24), fx_u, fx_u] [] M (some (.inl (z_edge (ph M 1) (2 * (p + 1)) : Int))) M := by
      have e : (24 * (p : Int) + 24) = ((24 * p + 24 : Nat) : Int) := by push_cast; rfl
      rw [e, z_edge_x hA (by omega)]
      refine Ev.res ?_ (evm_columns S2 (by omega))
      unfold z_edge
      rw [pb_s_ext fun i hi => by rw [show 24 * p + 24 + i = 12 * (2 * (p + 1)) + i by omega]]
    have b1 := z_edge_lt (ph M 1) (2 * p + 1)
    have b2 := z_edge_lt (ph M 1) (2 * (p + 1))
    have c0 : ∀ z M', Ev X 20 5 [fx_f 0, .inl (p : Int), .inl x2] [] M (some (.inl z)) M' → Ev X 20 0 [fx_f 0, .inl (p : Int), .inl x2] [] M (some (.inl z)) M' := fun z M' k => r20_0 (ev_isFold_y (by omega)) (r20_2T (by omega) (by omega) k)
    have m0 : ∀ z M', Ev X 161 14 [fx_f 56, .inl (p : Int), .inl x2, fx_u] [.inl (z_edge (ph M 1) (2 * p + 1) : Int)] M (some (.inl z)) M' → Ev X 161 0 [fx_f 56, .inl (p : Int), .inl x2, fx_u] [] M (some (.inl z)) M' := fun z M' k => r161_0 (evm_in_y (by omega) h1 (by decide) (by decide)) (r161_4T (by omega) (by omega) (r161_7 mA k))
    by_cases hx : x2 < 0 ∨ 3 < x2
    · exact OP_read hI (c0 _ _ (r20_5D h2 hx r20_32)) (frC_r M) (m0 _ _ (r161_14D h2 hx r161_36)) (frM_r M) (by decide)
    · by_cases x0 : x2 = 0
      · exact OP_read hI (c0 _ _ (r20_5c0 x0 (r20_7 (ev_marksAt S1 (by omega)) r20_11))) (frC_r M) (m0 _ _ (r161_14c0 x0 r161_17)) (frM_r M) (by constructor <;> omega)
      · by_cases x1' : x2 = 1
        · refine OP_read hI (c0 _ _ (r20_5c1 x1' (r20_12 (ev_marksAt S1 (by omega)) (r20_16 (ev_startsAt S1 hp5) r20_20)))) (frC_r M) (m0 _ _ (r161_14c1 x1' (r161_19 mB r161_27))) (frM_r M) ?_
          rw [pb_and (by omega)]
          have := Nat.and_le_left (n := z_edge (ph M 1) (2 * p + 1)) (m := z_edge (ph M 1) (2 * (p + 1)))
          constructor <;> omega
        · by_cases x2' : x2 = 2
          · have e : x2 - 2 = 0 := by omega
            have fl := evm_faults (X := X) (f := p) (w := x2 - 2) S2 hp5 (by constructor <;> omega)
            rw [if_pos e, ← z_f0_x hA hp5] at fl
            have b3 : z_f0 (ph M 1) p < 4096 := pb_s_lt _ 12
            exact OP_read hI (c0 _ _ (r20_5c2 x2' (r20_22 (ev_missedAt S1 hp5) r20_26))) (frC_r M) (m0 _ _ (r161_14c2 x2' (r161_29 fl r161_35))) (frM_r M) (by constructor <;> omega)
          · have x3' : x2 = 3 := by omega
            have fl := evm_faults (X := X) (f := p) (w := x2 - 2) S2 hp5 (by constructor <;> omega)
            rw [if_neg (by omega), ← z_f1_x hA hp5] at fl
            have b3 : z_f1 (ph M 1) p < 4096 := pb_s_lt _ 12
            exact OP_read hI (c0 _ _ (r20_5c3 x3' (r20_27 (ev_unmarkedAt S1 hp5) r20_31))) (frC_r M) (m0 _ _ (r161_14c3 x3' (r161_29 fl r161_35))) (frM_r M) (by constructor <;> omega)
  · exact OP_read hI (r20_0 (ev_isFold_n h1 (by omega)) (r20_2F (by omega) rfl r20_3)) (frC_r M) (r161_0 (evm_in_n (by omega) h1 (by decide) (by decide)) (r161_4F (by omega) rfl r161_5)) (frM_r M) (by decide)
theorem z_str_b (P : Nat → Bool) (p : Nat) : z_str P p ≤ 12 := by
  have := pb_c_le (fun e => P (24 * p + e)) 24
  unfold z_str
  omega
theorem op_hand {x1 x2 : Int} (hI : cI M) (h1 : pR x1) (h2 : pR x2) : OP X M 22 163 [.inl x1, .inl x2] [.inl x1, .inl x2] := by
  obtain ⟨S1, S2, hA, hO, hH, hi, hi2, hz, hz2⟩ := sD_of hI.1
  by_cases hp : 0 ≤ x1 ∧ x1 < 6
  · have c0 : ∀ z M', Ev X 22 5 [fx_f 0, .inl x1, .inl x2] [] M (some (.inl z)) M' → Ev X 22 0 [fx_f 0, .inl x1, .inl x2] [] M (some (.inl z)) M' := fun z M' k => r22_0 (ev_isHand_y hp) (r22_2T (by omega) (by omega) k)
    have m0 : ∀ z M', Ev X 163 7 [fx_f 56, .inl x1, .inl x2] [] M (some (.inl z)) M' → Ev X 163 0 [fx_f 56, .inl x1, .inl x2] [] M (some (.inl z)) M' := fun z M' k => r163_0 (evm_in_y (by omega) h1 (by decide) (by decide)) (r163_4T (by omega) (by omega) k)
    by_cases hx : x2 < 0 ∨ 3 < x2
    · exact OP_read hI (c0 _ _ (r22_5D h2 hx r22_32)) (frC_r M) (m0 _ _ (r163_7 (evm_in_n (by omega) h2 (by decide) (by decide)) (r163_11T (by omega) rfl r163_17))) (frM_r M) (by decide)
    · have m1 : Ev X 163 0 [fx_f 56, .inl x1, .inl x2] [] M (some (.inl ((pb_n (y_oh (mh M) (fun p => M 57 (144 + p)) x1 x2) 6 : Nat) : Int))) M := m0 _ _ (r163_7 (evm_in_y (by omega) h2 (by decide) (by decide)) (r163_11F (by omega) (by omega) (r163_12 (evm_ofHand S2 h1 h2) r163_16)))
      have eH : ∀ p, p < 6 → M 57 (144 + p) = M 3 p := hH
      have e0 : pb_n (y_oh (mh M) (fun p => M 57 (144 + p)) x1 x2) 6 = pb_n (y_oh (ph M 1) (M 3) x1 x2) 6 := by
        refine pb_n_ext fun i hi => ?_
        unfold y_oh
        show (if M 57 (144 + i) = x1 then _ else _) = _
        rw [eH i hi, z_str_x hA hi]
        by_cases h0 : 0 < i
        · rw [z_c0_x hA (show i - 1 < 5 by omega), z_c1_x hA (show i - 1 < 5 by omega)]
        · rw [if_neg h0, if_neg h0, if_neg h0, if_neg h0]
      rw [e0] at m1
      by_cases x0 : x2 = 0
      · subst x0
        rw [z_oh0] at m1
        have b := pb_s_lt (fun p => decide (M 3 p = x1)) 6
        have hr : pR ((pb_s (fun p => decide (M 3 p = x1)) 6 : Nat) : Int) := by constructor <;> omega
        exact OP_read hI (c0 _ _ (r22_5c0 rfl (r22_7 (ev_panelsOf S1 h1) r22_11))) (frC_r M) m1 (frM_r M) hr
      · by_cases x1' : x2 = 1
        · subst x1'
          rw [z_oh1] at m1
          have b : pb_n (fun p => if M 3 p = x1 then z_str (ph M 1) p else 0) 6 ≤ 6 * 12 := pb_n_le fun i _ => by have := z_str_b (ph M 1) i; split <;> omega
          have hr : pR ((pb_n (fun p => if M 3 p = x1 then z_str (ph M 1) p else 0) 6 : Nat) : Int) := by constructor <;> omega
          exact OP_read hI (c0 _ _ (r22_5c1 rfl (r22_12 (ev_strokesOf S1 h1) r22_16))) (frC_r M) m1 (frM_r M) hr
        · have b0 : pb_n (fun f => if M 3 (f + 1) = x1 then z_c0 (ph M 1) f else 0) 5 ≤ 5 * 12 := pb_n_le fun i _ => by
            have : z_c0 (ph M 1) i ≤ 12 := pb_c_le _ 12
            split <;> omega
          have b1 : pb_n (fun f => if M 3 (f + 1) = x1 then z_c1 (ph M 1) f else 0) 5 ≤ 5 * 12 := pb_n_le fun i _ => by
            have : z_c1 (ph M 1) i ≤ 12 := pb_c_le _ 12
            split <;> omega
          by_cases x2' : x2 = 2
          · subst x2'
            rw [z_oh2] at m1
            have hr : pR (((pb_n (fun f => if M 3 (f + 1) = x1 then z_c0 (ph M 1) f else 0) 5 : Nat) : Int) + ((pb_n (fun f => if M 3 (f + 1) = x1 then z_c1 (ph M 1) f else 0) 5 : Nat) : Int)) := by constructor <;> omega
            exact OP_read hI (c0 _ _ (r22_5c2 rfl (r22_17 (ev_missedOf S1 h1) (r22_21 (ev_unmarkedOf S1 h1) r22_25)))) (frC_r M) m1 (frM_r M) hr
          · have x3' : x2 = 3 := by omega
            subst x3'
            rw [z_oh3] at m1
            have hr : pR ((pb_n (fun f => if M 3 (f + 1) = x1 then z_c1 (ph M 1) f else 0) 5 : Nat) : Int) := by constructor <;> omega
            exact OP_read hI (c0 _ _ (r22_5c3 rfl (r22_27 (ev_unmarkedOf S1 h1) r22_31))) (frC_r M) m1 (frM_r M) hr
  · exact OP_read hI (r22_0 (ev_isHand_n h1 (by omega)) (r22_2F (by omega) rfl r22_3)) (frC_r M) (r163_0 (evm_in_n (by omega) h1 (by decide) (by decide)) (r163_4F (by omega) rfl r163_5)) (frM_r M) (by decide)
end OPS

/-! what would be: the trial strip of the class, and the row of the reference -/
def sDa (M : fx_M) (a : Nat) : Prop := pS M a ∧ mS M ∧ zA (ph M a) (mh M) ∧ (∀ k, k < 144 → mO M k = M (a + 1) k) ∧ (∀ p, p < 6 → mH M p = M (a + 2) p) ∧ z_inv (M (a + 1)) ∧ z_inv (mO M) ∧ zr (M (a + 1)) ∧ zr (mO M)
theorem sDa_of {M : fx_M} {a : Nat} (h : sE M a 57 0) : sDa M a := by
  obtain ⟨h1, h2, h3, h4⟩ := h
  have h3' : ∀ k, k < 144 → M 57 k = M (a + 1) k + 1 := fun k hk => by have := h3 k hk; rwa [Nat.zero_add] at this
  have h4' : ∀ p, p < 6 → M 57 (144 + p) = M (a + 2) p := fun p hp => by have := h4 p hp; rwa [Nat.zero_add] at this
  have hO : ∀ k, k < 144 → mO M k = M (a + 1) k := fun k hk => by unfold mO; rw [h3' k hk]; omega
  have hr := h1.2.1
  have hb := h1.2.2
  have hi : z_inv (mO M) := by
    intro p e hp he
    rcases h2 p e hp he with q | ⟨o, q1, q2, q3, q4⟩
    · exact Or.inl (by rw [hO _ (by omega)]; exact q)
    · exact Or.inr ⟨o, q1, q2, by rw [hO _ (by omega)]; exact q3, by rw [hO _ (by omega)]; exact q4⟩
  refine ⟨h1, ⟨fun k hk => ?_, fun p hp => ?_⟩, fun k hk => ?_, hO, h4', h2, hi, ⟨hr, h2⟩, ⟨fun k hk => ?_, hi⟩⟩
  · have := hr k hk; have := h3' k hk; omega
  · have := hb p hp; have := h4' p hp; omega
  · show decide (M (a + 1) k ≠ -1) = decide (0 < M 57 k)
    have := hr k hk
    rw [h3' k hk, decide_eq_decide]
    omega
  · have := hr k hk; rw [hO k hk]; omega
theorem isS5 : fd_isS 5 := ⟨rfl, rfl, rfl, rfl⟩
theorem z_cpy_self {f g h : Nat → Int} {n : Nat} (h1 : ∀ k, k < n → f k = h k) (h2 : ∀ k, n ≤ k → g k = h k) : z_cpy f g n = h := by
  funext k
  unfold z_cpy
  split
  next hk => exact h1 k hk
  next hk => exact h2 k (by omega)
theorem z_loose_x {P Q : Nat → Bool} (h : zA P Q) : z_loose P = z_loose Q := by
  rw [← z_loose_c, ← z_loose_c]
  exact pb_c_ext fun i hi => by rw [z_how_x h hi]
section TRL
variable {X : fx_Sc} {M M' : fx_M} {j i : Nat}
theorem mlooseA {a : Nat} (S : sE M a 57 0) : Ev X 129 0 [fx_f 56] [] M (some (.inl (z_loose (ph M a) : Int))) M := by
  have D := sDa_of S
  have m := evm_loose (X := X) D.2.1
  rw [z_loose_c, ← z_loose_x D.2.2.1] at m
  exact m
theorem Ev.loopX (N : Nat) (I : Nat → List fx_V → fx_M → Prop) (hs : ∀ c, c < N → ∀ L M, I c L M → ∃ L1 M1, I (c + 1) L1 M1 ∧ ∀ r M', Ev X j i L1 [] M1 r M' → Ev X j i L [] M r M') :
    ∀ L M, I 0 L M → ∃ L1 M1, I N L1 M1 ∧ ∀ r M', Ev X j i L1 [] M1 r M' → Ev X j i L [] M r M' := by
  have key : ∀ n c, c + n = N → ∀ L M, I c L M → ∃ L1 M1, I N L1 M1 ∧ ∀ r M', Ev X j i L1 [] M1 r M' → Ev X j i L [] M r M' := by
    intro n
    induction n with
    | zero =>
      intro c hc L M h
      have : c = N := by omega
      subst this
      exact ⟨L, M, h, fun _ _ k => k⟩
    | succ n ih =>
      intro c hc L M h
      obtain ⟨L1, M1, h1, h2⟩ := hs c (by omega) L M h
      obtain ⟨L2, M2, h3, h4⟩ := ih (c + 1) (by omega) L1 M1 h1
      exact ⟨L2, M2, h3, fun r M' k => h2 r M' (h4 r M' k)⟩
  exact fun L M h => key N 0 (by omega) L M h
/-- the trial is a copy -/
def y_tr (M : fx_M) : fx_M := fx_set (fx_set M 6 (z_cpy (M 2) (M 6) 144)) 7 (z_cpy (M 3) (M 7) 6)
theorem ev_try : Ev X 77 0 [fx_f 5, fx_f 1] [] M none (y_tr M) := ev_copyFrom isS5 isS1 (by omega)
theorem try_D (S : pS M 1) (hi : z_inv (M 2)) : pS (y_tr M) 5 ∧ z_inv (y_tr M 6) ∧ (∀ k, k < 144 → y_tr M 6 k = M 2 k) ∧ (∀ p, p < 6 → y_tr M 7 p = M 3 p) ∧ (∀ r, r ≠ 6 → r ≠ 7 → y_tr M r = M r) := by
  have e6 : ∀ k, k < 144 → y_tr M 6 k = M 2 k := fun k hk => by
    unfold y_tr
    rw [fx_sn (by omega), fx_sk]
    unfold z_cpy
    rw [if_pos hk]
  have e7 : ∀ p, p < 6 → y_tr M 7 p = M 3 p := fun p hp => by
    unfold y_tr
    rw [fx_sk]
    unfold z_cpy
    rw [if_pos hp]
  refine ⟨⟨isS5, fun k hk => ?_, fun p hp => ?_⟩, fun p e hp he => ?_, e6, e7, fun r h1 h2 => by unfold y_tr; rw [fx_sn h2, fx_sn h1]⟩
  · show -1 ≤ y_tr M 6 k ∧ y_tr M 6 k < 24
    rw [e6 k hk]; exact S.2.1 k hk
  · show 0 ≤ y_tr M 7 p ∧ y_tr M 7 p < 6
    rw [e7 p hp]; exact S.2.2 p hp
  · rw [e6 _ (by omega)]
    rcases hi p e hp he with q | ⟨o, q1, q2, q3, q4⟩
    · exact Or.inl q
    · exact Or.inr ⟨o, q1, q2, q3, by rw [e6 _ (by omega)]; exact q4⟩
theorem op_ifTurned {x1 x2 x3 : Int} (hI : cI M) (h1 : pR x1) (h2 : pR x2) (h3 : pR x3) : OP X M 30 175 [.inl x1, .inl x2, .inl x3] [.inl x1, .inl x2, .inl x3, fx_u] := by
  obtain ⟨S1, S2, hA, hO, hH, hi, hi2, hz, hz2⟩ := sD_of hI.1
  by_cases hp : 0 ≤ x1 ∧ x1 < 6
  · obtain ⟨p, rfl⟩ := nat_of hp.1
    have hp6 : p < 6 := by omega
    have c0 : ∀ z M', Ev X 30 5 [fx_f 0, .inl (p : Int), .inl x2, .inl x3] [] M (some (.inl z)) M' → Ev X 30 0 [fx_f 0, .inl (p : Int), .inl x2, .inl x3] [] M (some (.inl z)) M' := fun z M' k => r30_0 (ev_isPanel_y hp) (r30_2T (by omega) (by omega) k)
    have m0 : ∀ (M1 : fx_M) z M', Ev X 175 5 [fx_f 56, .inl (p : Int), .inl x2, .inl x3, fx_u] [] M1 (some (.inl z)) M' → Ev X 175 0 [fx_f 56, .inl (p : Int), .inl x2, .inl x3, fx_u] [] M1 (some (.inl z)) M' := fun M1 z M' k => r175_0 (evm_isPanel_y hp) (r175_2T (by omega) (by omega) k)
    by_cases hx : (0 ≤ x2 ∧ x2 < 3) ∧ (0 ≤ x3 ∧ x3 < 3)
    · obtain ⟨t1, t2, t3, t4, t5⟩ := try_D S1 hi
      have hn : ∀ e : Nat, e < 24 → z_tn x2 (z_tn x2 (e : Int)) = e ∧ 0 ≤ z_tn x2 (e : Int) ∧ z_tn x2 (e : Int) < 24 := fun e he => ⟨z_tn_inv (by omega), z_tn_rg (by omega)⟩
      obtain ⟨MF, hMF⟩ : ∃ MF : fx_M, MF = z_lM (y_tr M) 5 (z_tn x2) (z_tn x2) p 24 := ⟨_, rfl⟩
      have fl := ev_flip (X := X) (a := 5) (h := x2) t1 t2 hp6 hx.1
      rw [← hMF] at fl
      have F6 : MF 6 = z_lay (z_tn x2) (z_tn x2) (y_tr M 6) p 24 := by rw [hMF]; unfold z_lM; rw [show (6 : Nat) = 5 + 1 from rfl, fx_sk]
      have F7 : MF 7 = y_tr M 7 := by rw [hMF]; unfold z_lM; rw [fx_sn (by omega), fx_sn (by omega)]
      have Fo : ∀ r, r < 5 ∨ 8 < r → MF r = M r := fun r hr => by rw [hMF]; unfold z_lM; rw [fx_sn (by omega), fx_sn (by omega), t5 r (by omega) (by omega)]
      have PF : pS MF 5 := ⟨isS5, fun k hk => by show -1 ≤ MF 6 k ∧ MF 6 k < 24; rw [F6]; exact z_lay_rg t1.2.1 t2 hp6 (fun e he _ => hn e he) k hk, fun q hq => by show 0 ≤ MF 7 q ∧ MF 7 q < 6; rw [F7]; exact t1.2.2 q hq⟩
      have iF : z_inv (MF 6) := by rw [F6]; exact z_inv_lay t1.2.1 t2 hp6 (fun e he _ => hn e he) (fun t ht _ _ _ => (hn t ht).1)
      have zF : zr (MF 6) := ⟨PF.2.1, iF⟩
      -- the reference, behind whatever the class has done
      have model : ∀ MC : fx_M, (∀ r, r < 9 ∨ 16 < r → MC r = MF r) → ∃ M3 : fx_M, sE M3 5 57 0 ∧ mL (MF 6) (MF 7) M3 144 ∧ (∀ r, r < 56 → M3 r = MC r) ∧ (∀ z, (∀ M4 : fx_M, Ev X 173 0 [fx_f 56, fx_u] [] M3 none M4 → Ev X 175 36 [fx_f 56, .inl (p : Int), .inl x2, .inl x3, fx_u] [] M3 (some (.inl z)) M4) → ∃ M4 : fx_M, Ev X 175 0 [fx_f 56, .inl (p : Int), .inl x2, .inl x3, fx_u] [] MC (some (.inl z)) M4 ∧ frM M4 MC) := by
        intro MC hMC
        have c57 : MC 57 = M 57 := by rw [hMC 57 (by omega), Fo 57 (by omega)]
        obtain ⟨MK, hMK⟩ : ∃ MK : fx_M, MK = fx_set MC 59 (z_cpy (MC 57) (MC 59) 150) := ⟨_, rfl⟩
        have k57 : MK 57 = M 57 := by rw [hMK, fx_sn (by omega), c57]
        obtain ⟨MT, hMT⟩ : ∃ MT : fx_M, MT = y_lM MK (z_tn x2) (z_tn x2) p 24 := ⟨_, rfl⟩
        have la := evm_lays (X := X) (M := MK) (p := p) (x := 0) (mi := if x2 ≠ 1 then 1 else 0) (ov := if x2 ≠ 0 then 1 else 0) (mu := z_tn x2) (nu := z_tn x2) (by rw [k57]; exact S2.1) hp6 (fun e M he => evm_movedT he hx.1) (fun e he _ => hn e he) (fun t ht _ _ _ => (hn t ht).1)
        rw [← hMT] at la
        have T57 : MT 57 = y_lay (z_tn x2) (z_tn x2) (M 57) p 24 := by rw [hMT]; unfold y_lM; rw [fx_sk, k57]
        have To : ∀ r, r ≠ 57 → r ≠ 58 → r ≠ 59 → MT r = MC r := fun r q1 q2 q3 => by rw [hMT]; unfold y_lM; rw [fx_sn q1, fx_sn q2, hMK, fx_sn q3]
        have T59 : ∀ k, k < 150 → MT 59 k = M 57 k := fun k hk => by
          rw [hMT]; unfold y_lM
          rw [fx_sn (by omega), fx_sn (by omega), hMK, fx_sk, c57]
          unfold z_cpy
          rw [if_pos hk]
        have s1 : ∀ k, k < 144 → M 57 k = y_tr M 6 k + 1 := fun k hk => by rw [t3 k hk]; have := hO k hk; unfold mO at this; omega
        have T6 : MT 6 = MF 6 := by rw [To 6 (by omega) (by omega) (by omega), hMC 6 (by omega)]
        have T7 : MT 7 = MF 7 := by rw [To 7 (by omega) (by omega) (by omega), hMC 7 (by omega)]
        have sT : sE MT 5 57 0 := by
          refine ⟨⟨isS5, ?_, ?_⟩, ?_, fun k hk => ?_, fun q hq => ?_⟩
          · show ∀ k, k < 144 → -1 ≤ MT 6 k ∧ MT 6 k < 24
            rw [T6]; exact PF.2.1
          · show ∀ k, k < 6 → 0 ≤ MT 7 k ∧ MT 7 k < 6
            rw [T7]; exact PF.2.2
          · show z_inv (MT 6)
            rw [T6]; exact iF
          · show MT 57 (0 + k) = MT 6 k + 1
            rw [Nat.zero_add, T57, T6, F6]
            exact lay_eq t1.2.1 hp6 s1 k hk
          · show MT 57 (0 + 144 + q) = MT 7 q
            rw [Nat.zero_add, T57, T7, F7, t4 q hq, y_lay_hi hp6 (by omega)]
            exact hH q hq
        have D := sDa_of sT
        obtain ⟨M3, l1, l2, l3⟩ := evm_lay (X := X) D.2.1 D.2.2.2.2.2.2.2.2
        have l2' := mL_x (O' := MF 6) (H' := MF 7) (fun k hk => by rw [D.2.2.2.1 k hk]; show MT 6 k = _; rw [T6]) D.2.2.2.2.2.2.2.2 zF (fun q hq => by rw [D.2.2.2.2.1 q hq]; show MT 7 q = _; rw [T7]) l2
        have s3 : sE M3 5 57 0 := sE_f sT (l3.1 6 (by omega)) (l3.1 7 (by omega)) (l3.1 57 (by omega))
        refine ⟨M3, s3, l2', fun r hr => by rw [l3.1 r (by omega), To r (by omega) (by omega) (by omega)], fun z hk => ?_⟩
        obtain ⟨M4, hM4⟩ : ∃ M4 : fx_M, M4 = fx_set M3 57 (z_cpy (M3 59) (M3 57) 150) := ⟨_, rfl⟩
        have pb := evm_putBack (X := X) (M := M3)
        rw [← hM4] at pb
        refine ⟨M4, ?_, fun r hr => ?_, fun k k1 _ _ _ => ?_⟩
        · have tail : Ev X 175 34 [fx_f 56, .inl (p : Int), .inl x2, .inl x3, fx_u] [] MT (some (.inl z)) M4 := r175_34 l1 (hk M4 pb)
          refine m0 MC z M4 (r175_5 (evm_in_y (by omega) h2 (by decide) (by decide)) (r175_9F (by omega) (by omega) (r175_10 (evm_in_y (by omega) h3 (by decide) (by decide)) (r175_14T (by omega) (by omega) (r175_17 (by rw [hMK] at la; exact evm_keepTrial) ?_)))))
          rw [← hMK]
          by_cases q1 : x2 = 1
          · rw [if_neg (by omega), if_pos (by omega)] at la
            exact r175_19T h2 q1 (r175_27F h2 (by omega) (r175_30 la tail))
          · by_cases q0 : x2 = 0
            · rw [if_pos q1, if_neg (by omega)] at la
              exact r175_19F h2 q1 (r175_25T h2 q0 (r175_32 la tail))
            · rw [if_pos q1, if_pos q0] at la
              exact r175_19F h2 q1 (r175_25F h2 q0 (r175_30 la tail))
        · by_cases r57 : r = 57
          · subst r57
            rw [hM4, fx_sk, c57]
            refine z_cpy_self (fun k hk => ?_) (fun k hk => ?_)
            · rw [l3.1 59 (by omega)]; exact T59 k hk
            · rw [l3.1 57 (by omega), T57, y_lay_hi hp6 (by omega)]
          · rw [hM4, fx_sn r57, l3.1 r (by omega), To r (by omega) (by omega) (by omega)]
        · rw [hM4, fx_sn (by omega), l3.2 k k1, To 56 (by omega) (by omega) (by omega)]
      have c1 : ∀ z M', Ev X 30 25 [fx_f 0, .inl (p : Int), .inl x2, .inl x3] [] MF (some (.inl z)) M' → Ev X 30 0 [fx_f 0, .inl (p : Int), .inl x2, .inl x3] [] M (some (.inl z)) M' := fun z M' k => c0 z M' (r30_5 (ev_isTurn_y hx.1) (r30_7F (by omega) (by omega) (r30_8F h3 (by omega) (r30_10T h3 (by omega) (r30_15 ev_try (r30_20 fl k))))))
      by_cases x0 : x3 = 0
      · obtain ⟨M3, s3, l2, l3, fin⟩ := model MF (fun _ _ => rfl)
        have b := z_loose_b (ph MF 5)
        have ml := mlooseA (X := X) s3
        rw [show ph M3 5 = ph MF 5 by unfold ph; rw [l3 (5 + 1) (by omega)]] at ml
        obtain ⟨M4, g1, g2⟩ := fin (z_loose (ph MF 5) : Int) (fun M4 pb => r175_36F h3 x0 (r175_38 ml (r175_40 pb r175_53)))
        exact OP_read hI (c1 _ _ (r30_25F h3 x0 (r30_27 (ev_looseEnds PF) r30_30))) (fun q hq => Fo q (by omega)) g1 g2 (by constructor <;> omega)
      · obtain ⟨MC, tr1, tr2, tr3⟩ := ev_trace5 (X := X) PF zF
        obtain ⟨M3, s3, l2, l3, fin⟩ := model MC (fun r hr => tr3 r hr)
        have eq := lines_eq zF PF.2.2 tr2 l2
        have ok := cL_ok zF tr2
        have okm := mL_ok zF l2
        obtain ⟨N, hN⟩ : ∃ N, N = (zN (MF 6) 144).length := ⟨_, rfl⟩
        rw [← hN] at eq ok okm
        have h72 := ok.1
        have n1 : MC 9 0 = (N : Int) := by rw [hN]; exact tr2.1
        have n2 : M3 56 14 = (N : Int) := by rw [hN]; exact l2.1
        have fC : frC MC M := fun q hq => by rw [tr3 q (by omega), Fo q (by omega)]
        by_cases x1' : x3 = 1
        · obtain ⟨M4, g1, g2⟩ := fin (M3 56 14) (fun M4 pb => r175_36T h3 x0 (r175_41F h3 x1' (r175_44 pb r175_53)))
          rw [n2, ← n1] at g1
          exact OP_read hI (c1 _ _ (r30_25T h3 x0 (r30_31 tr1 (r30_36F h3 x1' (r30_39 r49_0 r30_42))))) fC g1 g2 (by constructor <;> omega)
        · have x2' : x3 = 2 := by omega
          have mo := evm_ofLines (X := X) (w := 2) n2 okm (by decide)
          have e : (if (2 : Int) = 7 then l_mx (M3 64) N else l_q 2 (M3 65) (M3 67) (M3 68) N) = (l_lp (MC 16) N : Int) := by
            rw [if_neg (by omega)]
            unfold l_q
            rw [if_pos rfl]
            unfold l_lp
            rw [pb_c_ext fun i hi => by rw [← (eq i hi).2.2.2.2.2]]
          rw [e] at mo
          have b : l_lp (MC 16) N ≤ N := pb_c_le _ N
          obtain ⟨M4, g1, g2⟩ := fin (l_lp (MC 16) N : Int) (fun M4 pb => r175_36T h3 x0 (r175_41T h3 x1' (r175_47 mo (r175_50 pb r175_53))))
          exact OP_read hI (c1 _ _ (r30_25T h3 x0 (r30_31 tr1 (r30_36T h3 x1' (r30_43 (ev_l55 n1 ok) r30_46))))) fC g1 g2 (by constructor <;> omega)
    · refine OP_read (z := -2) hI (c0 _ _ ?_) (frC_r M) (m0 _ _ _ ?_) (frM_r M) (by decide)
      · by_cases q1 : 0 ≤ x2 ∧ x2 < 3
        · by_cases q2 : x3 < 0
          · exact r30_5 (ev_isTurn_y q1) (r30_7F (by omega) (by omega) (r30_8T h3 q2 r30_13))
          · exact r30_5 (ev_isTurn_y q1) (r30_7F (by omega) (by omega) (r30_8F h3 (by omega) (r30_10F h3 (by omega) r30_13)))
        · exact r30_5 (ev_isTurn_n h2 (by omega)) (r30_7T (by omega) rfl r30_13)
      · by_cases q1 : 0 ≤ x2 ∧ x2 < 3
        · exact r175_5 (evm_in_y (by omega) h2 (by decide) (by decide)) (r175_9F (by omega) (by omega) (r175_10 (evm_in_n (by omega) h3 (by decide) (by decide)) (r175_14F (by omega) rfl r175_15)))
        · exact r175_5 (evm_in_n (by omega) h2 (by decide) (by decide)) (r175_9T (by omega) rfl r175_15)
  · exact OP_read hI (r30_0 (ev_isPanel_n h1 (by omega)) (r30_2F (by omega) rfl r30_3)) (frC_r M) (r175_0 (evm_isPanel_n h1 (by omega)) (r175_2F (by omega) rfl r175_3)) (frM_r M) (by decide)
end TRL

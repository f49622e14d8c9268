section OPC
variable {X : fx_Sc} {M M' : fx_M}
theorem op_line {x1 x2 : Int} (hI : cI M) (h1 : pR x1) (h2 : pR x2) : OP X M 23 166 [.inl x1, .inl x2] [.inl x1, .inl x2] := by
  obtain ⟨S1, S2, hA, hO, hH, hi, hi2, hz, hz2⟩ := sD_of hI.1
  obtain ⟨M1, t1, t2, t3, t4⟩ := trace_D (X := X) hI.1
  obtain ⟨M3, k1, k2, k3, U2, f57, fh, fO, fH⟩ := lay_D (X := X) hI.1 t3
  have eq := lines_eq hz S1.2.2 t2 k2
  have ok := cL_ok hz t2
  have okm := mL_ok hz k2
  have h72 := ok.1
  obtain ⟨N, hN⟩ : ∃ N, N = (zN (M 2) 144).length := ⟨_, rfl⟩
  rw [← hN] at eq ok okm h72
  have n1 : M1 9 0 = (N : Int) := by rw [hN]; exact t2.1
  have n2 : M3 56 14 = (N : Int) := by rw [hN]; exact k2.1
  by_cases hp : 0 ≤ x1 ∧ x1 < (N : Int)
  · obtain ⟨i, rfl⟩ := nat_of hp.1
    have hi' : i < N := by omega
    have hi7 : i < 72 := by omega
    have ei : (i : Int).toNat = i := by omega
    obtain ⟨q1, q2, q3, q4, q5, q6⟩ := eq i hi'
    obtain ⟨b1, b2, b3, b4, b5⟩ := ok.2 i hi'
    obtain ⟨-, d2, -⟩ := okm.2 i hi'
    have c0 : ∀ z M', Ev X 23 14 [fx_f 0, .inl (i : Int), .inl x2] [] M1 (some (.inl z)) M' → Ev X 23 0 [fx_f 0, .inl (i : Int), .inl x2] [] M (some (.inl z)) M' := fun z M' k => r23_0 t1 (r23_5F (by omega) (by omega) (r23_7 r49_0 (r23_11T (by rw [n1]; omega) (by rw [n1]; omega) k)))
    have m0 : ∀ z M', Ev X 166 12 [fx_f 56, .inl (i : Int), .inl x2] [] M3 (some (.inl z)) M' → Ev X 166 0 [fx_f 56, .inl (i : Int), .inl x2] [] M1 (some (.inl z)) M' := fun z M' k => r166_0 k1 (r166_2 (by rw [n2]; exact evm_in_y (by omega) h1 (by decide) (by constructor <;> omega)) (r166_9T (by omega) (by omega) k))
    by_cases hx : x2 < 0 ∨ 5 < x2
    · exact OP_read hI (c0 _ _ (r23_14D h2 hx r23_50)) t3 (m0 _ _ (r166_12D h2 hx r166_46)) k3 (by decide)
    by_cases x0 : x2 = 0
    · exact OP_read (z := M1 11 i) hI (c0 _ _ (r23_14c0 x0 (r23_16 (ev_l50 hi7) r23_20))) t3 (m0 _ _ (r166_12c0 x0 (Ev.res (by rw [ei, q1]) (r166_14 (by omega))))) k3 (by constructor <;> omega)
    by_cases x1' : x2 = 1
    · refine OP_read (z := M1 16 i) hI (c0 _ _ (r23_14c1 x1' (r23_21 (ev_l51 hi7 b5) ?_))) t3 (m0 _ _ (r166_12c1 x1' (Ev.res (by rw [ei, q6]) (r166_19 (by omega))))) k3 (by constructor <;> omega)
      rcases b5 with b5 | b5
      · rw [b5]; exact r23_25T (by omega) rfl r23_28
      · rw [b5]; exact r23_25F (by omega) (by omega) r23_26
    by_cases x2' : x2 = 2
    · exact OP_read (z := M1 12 i) hI (c0 _ _ (r23_14c2 x2' (r23_30 (ev_l48 hi7) r23_34))) t3 (m0 _ _ (r166_12c2 x2' (Ev.res (by rw [ei, q2]) (r166_24 (by omega))))) k3 (by constructor <;> omega)
    by_cases x3' : x2 = 3
    · have mh := evm_handsOf (X := X) (s := (M3 66 i).toNat) U2 (by omega)
      rw [show (((M3 66 i).toNat : Nat) : Int) = M3 66 i by omega] at mh
      have e : y_ho (fun p => M3 57 (144 + p)) (M3 66 i).toNat = y_ho (M 3) (M3 66 i).toNat := y_ho_x (fun p hp => by rw [f57]; exact hH p hp) _
      rw [e, ← q3] at mh
      have b := y_ho_lt (H := M 3) S1.2.2 (M3 66 i).toNat
      have q3' : M1 13 i = (y_ho (M 3) (M3 66 i).toNat : Int) := q3
      have hr : pR (M1 13 i) := by constructor <;> omega
      refine OP_read (z := M1 13 i) hI (c0 _ _ (r23_14c3 x3' (r23_35 (ev_l52 hi7) r23_39))) t3 (m0 _ _ (r166_12c3 x3' (r166_29 (by omega) ?_ r166_35))) k3 hr
      rw [ei]
      exact mh
    by_cases x4' : x2 = 4
    · exact OP_read (z := M1 14 i) hI (c0 _ _ (r23_14c4 x4' (r23_40 (ev_l53 hi7) r23_44))) t3 (m0 _ _ (r166_12c4 x4' (Ev.res (by rw [ei, q4]) (r166_36 (by omega))))) k3 (by constructor <;> omega)
    · exact OP_read (z := M1 15 i) hI (c0 _ _ (r23_14c5 (by omega) (r23_45 (ev_l54 hi7) r23_49))) t3 (m0 _ _ (r166_12c5 (by omega) (Ev.res (by rw [ei, q5]) (r166_41 (by omega))))) k3 (by constructor <;> omega)
  · refine OP_read (z := -1) hI (r23_0 t1 ?_) t3 (r166_0 k1 (r166_2 (by rw [n2]; exact evm_in_n (by omega) h1 (by decide) (by constructor <;> omega)) (r166_9F (by omega) rfl r166_10))) k3 (by decide)
    by_cases hn : x1 < 0
    · exact r23_5T h1 hn r23_12
    · exact r23_5F h1 (by omega) (r23_7 r49_0 (r23_11F (by rw [n1]; exact ⟨h1, by constructor <;> omega⟩) (by rw [n1]; omega) r23_12))
theorem z_loose_b (P : Nat → Bool) : z_loose P ≤ 60 := by
  have h : pb_n (z_lf P) 5 ≤ 5 * 12 := pb_n_le fun i _ => pb_c_le _ 12
  exact h
theorem mloose (S : sE M 1 57 0) : Ev X 129 0 [fx_f 56] [] M (some (.inl (z_loose (ph M 1) : Int))) M := by
  obtain ⟨S1, S2, hA, hO, hH, hi, hi2, hz, hz2⟩ := sD_of S
  have m := evm_loose (X := X) S2
  have e : pb_c (fun i => decide (z_how (mh M) i = 2)) 144 = z_loose (ph M 1) := by
    rw [← z_loose_c]
    exact pb_c_ext fun i hi => by rw [z_how_x hA hi]
  rw [e] at m
  exact m
theorem mstrokes (S : sE M 1 57 0) : Ev X 169 0 [fx_f 56, .inl 0, fx_u, fx_u, fx_u] [] M (some (.inl ((pb_n (z_str (ph M 1)) 6 : Nat) : Int))) M := by
  obtain ⟨S1, S2, hA, hO, hH, hi, hi2, hz, hz2⟩ := sD_of S
  have m := evm_ofPanels (X := X) (w := 0) S2 hi2 (by decide)
  have e : pb_n (y_op (mh M) (mO M) 0) 6 = pb_n (z_str (ph M 1)) 6 := pb_n_ext fun i hi => by
    unfold y_op
    rw [if_pos rfl, z_str_x hA hi]
  rw [e] at m
  exact m
theorem str_b (P : Nat → Bool) : pb_n (z_str P) 6 ≤ 72 := by
  have h : pb_n (z_str P) 6 ≤ 6 * 12 := pb_n_le fun i _ => z_str_b P i
  exact h
theorem op_count {x1 : Int} (hI : cI M) (h1 : pR x1) : OP X M 24 168 [.inl x1] [.inl x1] := by
  obtain ⟨S1, S2, hA, hO, hH, hi, hi2, hz, hz2⟩ := sD_of hI.1
  obtain ⟨M2, l1, l2, l3, T2, e57, eh, eO, eH⟩ := lay_D (X := X) hI.1 (frC_r M)
  have m0 : ∀ z M', Ev X 168 2 [fx_f 56, .inl x1] [] M2 (some (.inl z)) M' → Ev X 168 0 [fx_f 56, .inl x1] [] M (some (.inl z)) M' := fun z M' k => r168_0 l1 k
  have hI2 := cI_read hI (frC_r M) l3
  have ep : ph M2 1 = ph M 1 := by unfold ph; rw [show M2 (1 + 1) = M (1 + 1) from l3.1 2 (by omega)]
  by_cases x0 : x1 = 0
  · have m := mstrokes (X := X) hI2.1
    rw [ep] at m
    subst x0
    have b := str_b (ph M 1)
    exact OP_read hI (r24_0c0 rfl (r24_2 (ev_strokes S1) r24_5)) (frC_r M) (m0 _ _ (r168_2c0 rfl (r168_4 m r168_7))) l3 (by constructor <;> omega)
  by_cases x3 : x1 = 3
  · have m := mloose (X := X) hI2.1
    rw [ep] at m
    have b := z_loose_b (ph M 1)
    exact OP_read hI (r24_0c3 x3 (r24_6 (ev_looseEnds S1) r24_9)) (frC_r M) (m0 _ _ (r168_2c3 x3 (r168_15 m r168_17))) l3 (by constructor <;> omega)
  by_cases x5 : x1 = 5
  · have m := evm_ofPanels (X := X) (w := 5) T2 (by rw [eO]; exact hi2) (by decide)
    rw [eh, eO, z_op5] at m
    have e : z_loose (mh M) = z_loose (ph M 1) := by
      rw [← z_loose_c, ← z_loose_c]
      exact (pb_c_ext fun i hi => by rw [z_how_x hA hi]).symm
    rw [e] at m
    subst x5
    have b := z_loose_b (ph M 1)
    exact OP_read hI (r24_0c5 rfl (r24_6 (ev_looseEnds S1) r24_9)) (frC_r M) (m0 _ _ (r168_2c5 rfl (r168_4 m r168_7))) l3 (by constructor <;> omega)
  by_cases x4 : x1 = 4
  · have m := evm_ends (X := X) (f := 0) (l := 5) (w := 3) T2 (by omega) (by omega) (by decide)
    have e : pb_c (fun i => decide (z_how (mh M2) (24 * 0 + i) = 3)) (24 * (5 - 0) + 24) = z_free (ph M 1) := by
      rw [← z_free_c]
      exact pb_c_ext fun i hi => by rw [eh, show 24 * 0 + i = i by omega, z_how_x hA hi]
    rw [e] at m
    have b : z_free (ph M 1) ≤ 24 := by
      have a1 := pb_c_le (fun c => ph M 1 c) 12
      have a2 := pb_c_le (fun c => ph M 1 (132 + c)) 12
      unfold z_free
      omega
    exact OP_read hI (r24_0c4 x4 (r24_10 (ev_freeEnds S1) r24_13)) (frC_r M) (m0 _ _ (r168_2c4 x4 (r168_18 m r168_23))) l3 (by constructor <;> omega)
  by_cases x6 : x1 = 6
  · have m := evm_ofPanels (X := X) (w := 6) T2 (by rw [eO]; exact hi2) (by decide)
    have e : pb_n (y_op (mh M2) (mO M2) 6) 6 = pb_n (z_prs (M 2)) 6 := pb_n_ext fun i hi => by
      unfold y_op
      rw [if_neg (by omega), if_neg (by omega), eO, z_prs_x hO hi]
    rw [e] at m
    subst x6
    have b : pb_n (z_prs (M 2)) 6 ≤ 6 * 288 := pb_n_le fun i _ => z_prs_b _ i
    have hr : pR ((pb_n (z_prs (M 2)) 6 : Nat) : Int) := by constructor <;> omega
    exact OP_read hI (r24_0c6 rfl (r24_14 (ev_pairs S1) r24_17)) (frC_r M) (m0 _ _ (r168_2c6 rfl (r168_4 m r168_7))) l3 hr
  by_cases x9 : x1 = 9
  · obtain ⟨n, b1, b2, b3, -⟩ := hI.2.2.2
    have hr : pR (M 17 1) := by constructor <;> omega
    refine OP_read (z := M 17 1) hI (r24_0c9 x9 (r24_18 r71_0 r24_21)) (frC_r M) (m0 _ _ (r168_2c9 x9 (Ev.res ?_ r168_24))) l3 hr
    rw [l3.2 15 (by omega) (by omega) (by omega) (by omega), b2, b3]
  by_cases x10 : x1 = 10
  · obtain ⟨n, a, b1, -, b2, b3, -⟩ := hI.2.1
    have hr : pR (M 19 1) := by constructor <;> omega
    refine OP_read (z := M 19 1) hI (r24_0c10 x10 (r24_22 r39_0 r24_25)) (frC_r M) (m0 _ _ (r168_2c10 x10 (Ev.res ?_ r168_27))) l3 hr
    rw [l3.2 16 (by omega) (by omega) (by omega) (by omega), b2, b3]
  -- lines
  obtain ⟨M1, t1, t2, t3, t4⟩ := trace_D (X := X) hI.1
  obtain ⟨M3, k1, k2, k3, U2, f57, fh, fO, fH⟩ := lay_D (X := X) hI.1 t3
  have eq := lines_eq hz S1.2.2 t2 k2
  have ok := cL_ok hz t2
  have okm := mL_ok hz k2
  have h72 := ok.1
  obtain ⟨N, hN⟩ : ∃ N, N = (zN (M 2) 144).length := ⟨_, rfl⟩
  rw [← hN] at eq ok okm h72
  have n1 : M1 9 0 = (N : Int) := by rw [hN]; exact t2.1
  have n2 : M3 56 14 = (N : Int) := by rw [hN]; exact k2.1
  have c0 : ∀ z M', Ev X 25 0 [fx_f 0, .inl x1] [] M1 (some (.inl z)) M' → Ev X 24 0 [fx_f 0, .inl x1] [] M (some (.inl z)) M' := by
    intro z M' k
    have k' : Ev X 24 26 [fx_f 0, .inl x1] [] M (some (.inl z)) M' := r24_26 t1 (r24_31 k r24_34)
    by_cases hx : x1 < 0 ∨ 10 < x1
    · exact r24_0D h1 hx k'
    · by_cases a1 : x1 = 1
      · exact r24_0c1 a1 k'
      · by_cases a2 : x1 = 2
        · exact r24_0c2 a2 k'
        · by_cases a7 : x1 = 7
          · exact r24_0c7 a7 k'
          · exact r24_0c8 (by omega) k'
  have mm : ∀ z M', Ev X 168 2 [fx_f 56, .inl x1] [] M3 (some (.inl z)) M' → Ev X 168 0 [fx_f 56, .inl x1] [] M1 (some (.inl z)) M' := fun z M' k => r168_0 k1 k
  by_cases a1 : x1 = 1
  · refine OP_read (z := M1 9 0) hI (c0 _ _ (r25_0c1 a1 (r25_2 r49_0 r25_5))) t3 (mm _ _ (r168_2c1 a1 (Ev.res (by rw [n1, n2]) r168_8))) k3 (by constructor <;> omega)
  have mo := evm_ofLines (X := X) (w := x1) n2 okm h1
  by_cases a2 : x1 = 2
  · have e : (if x1 = 7 then l_mx (M3 64) N else l_q x1 (M3 65) (M3 67) (M3 68) N) = (l_lp (M1 16) N : Int) := by
      rw [if_neg (by omega)]
      unfold l_q
      rw [if_pos a2]
      unfold l_lp
      rw [pb_c_ext fun i hi => by rw [← (eq i hi).2.2.2.2.2]]
    rw [e] at mo
    have b : l_lp (M1 16) N ≤ N := pb_c_le _ N
    exact OP_read hI (c0 _ _ (r25_0c2 a2 (r25_6 (ev_l55 n1 ok) r25_9))) t3 (mm _ _ (r168_2c2 a2 (r168_11 mo r168_14))) k3 (by constructor <;> omega)
  by_cases a7 : x1 = 7
  · have e : (if x1 = 7 then l_mx (M3 64) N else l_q x1 (M3 65) (M3 67) (M3 68) N) = l_mx (M1 11) N := by
      rw [if_pos a7]
      exact l_mx_e fun i hi => (eq i hi).1.symm
    rw [e] at mo
    have b := l_mx_b (a := M1 11) (n := N) (fun i hi => (ok.2 i hi).1)
    exact OP_read hI (c0 _ _ (r25_0c7 a7 (r25_10 (ev_l56 n1 ok) r25_13))) t3 (mm _ _ (r168_2c7 a7 (r168_11 mo r168_14))) k3 (by constructor <;> omega)
  by_cases a8 : x1 = 8
  · have e : (if x1 = 7 then l_mx (M3 64) N else l_q x1 (M3 65) (M3 67) (M3 68) N) = (l_tb (M1 16) (M1 14) (M1 15) N : Int) := by
      rw [if_neg a7]
      unfold l_q
      rw [if_neg a2]
      unfold l_tb
      rw [pb_c_ext fun i hi => by rw [← (eq i hi).2.2.2.2.2, ← (eq i hi).2.2.2.1, ← (eq i hi).2.2.2.2.1]]
    rw [e] at mo
    have b : l_tb (M1 16) (M1 14) (M1 15) N ≤ N := pb_c_le _ N
    exact OP_read hI (c0 _ _ (r25_0c8 a8 (r25_14 (ev_l57 n1 ok) r25_17))) t3 (mm _ _ (r168_2c8 a8 (r168_11 mo r168_14))) k3 (by constructor <;> omega)
  · refine OP_read (z := -2) hI (c0 _ _ ?_) t3 (mm _ _ (r168_2D h1 (by omega) r168_30)) k3 (by decide)
    exact r25_0D h1 (by omega) r25_18
end OPC

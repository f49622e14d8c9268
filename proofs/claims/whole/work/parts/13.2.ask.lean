/-! panels, ends, lines, counts -/
section OPA
variable {X : fx_Sc} {M M' : fx_M}
theorem z_prs_b (O : Nat → Int) (p : Nat) : z_prs O p ≤ 288 := by
  have h : pb_n (fun e => if (e : Int) < O (24 * p + e) then z_cr O (24 * p + e) else 0) 24 ≤ 24 * 24 := pb_n_le fun i _ => by
    have : z_cr O (24 * p + i) ≤ 24 := pb_c_le _ 24
    split <;> omega
  unfold z_prs
  omega
theorem in_b (t : Nat → Int) (p n : Nat) : l_in t p n ≤ n := pb_c_le _ n
theorem op_panel {x1 x2 : Int} (hI : cI M) (h1 : pR x1) (h2 : pR x2) : OP X M 19 156 [.inl x1, .inl x2] [.inl x1, .inl x2] := by
  obtain ⟨S1, S2, hA, hO, hH, hi, hi2, hz, hz2⟩ := sD_of hI.1
  by_cases hp : 0 ≤ x1 ∧ x1 < 6
  · obtain ⟨p, rfl⟩ := nat_of hp.1
    have hp6 : p < 6 := by omega
    have c0 : ∀ z M', Ev X 19 5 [fx_f 0, .inl (p : Int), .inl x2] [] M (some (.inl z)) M' → Ev X 19 0 [fx_f 0, .inl (p : Int), .inl x2] [] M (some (.inl z)) M' := fun z M' k => r19_0 (ev_isPanel_y hp) (r19_2T (by omega) (by omega) k)
    obtain ⟨M2, l1, l2, l3, T2, e57, eh, eO, eH⟩ := lay_D (X := X) hI.1 (frC_r M)
    have m0 : ∀ z M', Ev X 156 7 [fx_f 56, .inl (p : Int), .inl x2] [] M2 (some (.inl z)) M' → Ev X 156 0 [fx_f 56, .inl (p : Int), .inl x2] [] M (some (.inl z)) M' := fun z M' k => r156_0 (evm_isPanel_y hp) (r156_2T (by omega) (by omega) (r156_5 l1 k))
    by_cases hx : x2 < 0 ∨ 7 < x2
    · exact OP_read hI (c0 _ _ (r19_5D h2 hx r19_54)) (frC_r M) (m0 _ _ (r156_7D h2 hx r156_52)) l3 (by decide)
    by_cases x0 : x2 = 0
    · have ms := evm_strokesOf (X := X) T2 hp6
      rw [eh, ← z_str_x hA hp6] at ms
      have b := z_str_b (ph M 1) p
      exact OP_read hI (c0 _ _ (r19_5c0 x0 (r19_7 (ev_strokesIn S1 hp6) r19_11))) (frC_r M) (m0 _ _ (r156_7c0 x0 (r156_9 ms r156_12))) l3 (by constructor <;> omega)
    by_cases x1' : x2 = 1
    · have b : 0 ≤ M 3 p ∧ M 3 p < 6 := S1.2.2 p hp6
      have hr : pR (M 3 p) := by constructor <;> omega
      refine OP_read (z := M 3 p) hI (c0 _ _ (r19_5c1 x1' (r19_12 (ev_handOf S1 hp6) r19_16))) (frC_r M) (m0 _ _ (r156_7c1 x1' (Ev.res ?_ (r156_13 (by omega))))) l3 hr
      rw [show (144 + (p : Int)).toNat = 144 + p by omega, e57]
      exact hH p hp6
    by_cases x2' : x2 = 2
    · have b := z_edge_lt (ph M 1) (2 * p)
      have mc : Ev X 157 0 [fx_f 56, .inl (24 * (p : Int)), fx_u, fx_u] [] M2 (some (.inl (z_edge (ph M 1) (2 * p) : Int))) M2 := by
        have e : (24 * (p : Int)) = ((24 * p : Nat) : Int) := by push_cast; rfl
        rw [e, z_edge_x hA (by omega), ← eh]
        refine Ev.res ?_ (evm_columns T2 (by omega))
        unfold z_edge
        rw [pb_s_ext fun i hi => by rw [show 24 * p + i = 12 * (2 * p) + i by omega]]
      exact OP_read hI (c0 _ _ (r19_5c2 x2' (r19_17 ev_upper (r19_21 (ev_edgeSet S1 (by omega)) r19_22)))) (frC_r M) (m0 _ _ (r156_7c2 x2' (r156_20 mc r156_25))) l3 (by constructor <;> omega)
    by_cases x3' : x2 = 3
    · have b := z_edge_lt (ph M 1) (2 * p + 1)
      have mc : Ev X 157 0 [fx_f 56, .inl (24 * (p : Int) + 12), fx_u, fx_u] [] M2 (some (.inl (z_edge (ph M 1) (2 * p + 1) : Int))) M2 := by
        have e : (24 * (p : Int) + 12) = ((24 * p + 12 : Nat) : Int) := by push_cast; rfl
        rw [e, z_edge_x hA (by omega), ← eh]
        refine Ev.res ?_ (evm_columns T2 (by omega))
        unfold z_edge
        rw [pb_s_ext fun i hi => by rw [show 24 * p + 12 + i = 12 * (2 * p + 1) + i by omega]]
      exact OP_read hI (c0 _ _ (r19_5c3 x3' (r19_23 ev_lower (r19_27 (ev_edgeSet S1 (by omega)) r19_28)))) (frC_r M) (m0 _ _ (r156_7c3 x3' (r156_26 mc r156_33))) l3 (by constructor <;> omega)
    by_cases x4' : x2 = 4
    · have mp := evm_pairs (X := X) T2 (by rw [eO]; exact hi2) hp6
      rw [eO, z_prs_x hO hp6] at mp
      have b := z_prs_b (M 2) p
      have hr : pR (z_prs (M 2) p : Int) := by constructor <;> omega
      exact OP_read hI (c0 _ _ (r19_5c4 x4' (r19_29 (ev_pairsIn S1 hp6) r19_33))) (frC_r M) (m0 _ _ (r156_7c4 x4' (r156_34 mp r156_37))) l3 hr
    by_cases x5' : x2 = 5
    · have me := evm_ends (X := X) (f := p) (l := p) (w := 2) T2 (by omega) hp6 (by decide)
      rw [eh, show 24 * (p - p) + 24 = 24 by omega] at me
      have e : pb_c (fun i => decide (z_how (mh M) (24 * p + i) = 2)) 24 = pb_c (fun e => decide (z_how (ph M 1) (24 * p + e) = 2)) 24 := pb_c_ext fun i hi => by rw [z_how_x hA (show 24 * p + i < 144 by omega)]
      rw [e] at me
      have b := pb_c_le (fun e => decide (z_how (ph M 1) (24 * p + e) = 2)) 24
      exact OP_read hI (c0 _ _ (r19_5c5 x5' (r19_34 (ev_looseEndsIn S1 hp6) r19_38))) (frC_r M) (m0 _ _ (r156_7c5 x5' (r156_38 me r156_43))) l3 (by constructor <;> omega)
    by_cases x6' : x2 = 6
    · obtain ⟨M1, t1, t2, t3, t4⟩ := trace_D (X := X) hI.1
      obtain ⟨M3, k1, k2, k3, U2, -⟩ := lay_D (X := X) hI.1 t3
      have eq := lines_eq hz S1.2.2 t2 k2
      have ok := mL_ok hz k2
      have ml := evm_linesIn (X := X) k2.1 ok hp6
      have e : l_in (M3 66) p (zN (M 2) 144).length = l_in (M1 12) p (zN (M 2) 144).length := pb_c_ext fun i hi => by rw [(eq i hi).2.1]
      rw [e] at ml
      have b := in_b (M1 12) p (zN (M 2) 144).length
      have b2 := ok.1
      exact OP_read hI (c0 _ _ (r19_5c6 x6' (r19_39 t1 (r19_44 (ev_l47 t2.1 (cL_ok hz t2) hp6) r19_48)))) t3 (r156_0 (evm_isPanel_y hp) (r156_2T (by omega) (by omega) (r156_5 k1 (r156_7c6 x6' (r156_44 ml r156_47))))) k3 (by constructor <;> omega)
    · have x7' : x2 = 7 := by omega
      have md := evm_down (X := X) T2 hp6
      rw [eO] at md
      have e : pb_c (fun c => decide (12 ≤ mO M (24 * p + c))) 12 = pb_c (fun c => decide (12 ≤ M 2 (24 * p + c))) 12 := pb_c_ext fun i hi => by rw [hO (24 * p + i) (by omega)]
      rw [e] at md
      have b := pb_c_le (fun c => decide (12 ≤ M 2 (24 * p + c))) 12
      have hr : pR ((pb_c (fun c => decide (12 ≤ M 2 (24 * p + c))) 12 : Nat) : Int) := by constructor <;> omega
      exact OP_read hI (c0 _ _ (r19_5c7 x7' (r19_49 (ev_strokesDown S1 hp6) r19_53))) (frC_r M) (m0 _ _ (r156_7c7 x7' (r156_48 md r156_51))) l3 hr
  · exact OP_read hI (r19_0 (ev_isPanel_n h1 (by omega)) (r19_2F (by omega) rfl r19_3)) (frC_r M) (r156_0 (evm_isPanel_n h1 (by omega)) (r156_2F (by omega) rfl r156_3)) (frM_r M) (by decide)
theorem z_cr_b (O : Nat → Int) (k : Nat) : z_cr O k ≤ 24 := pb_c_le _ 24
theorem op_end {x1 x2 x3 : Int} (hI : cI M) (h1 : pR x1) (h2 : pR x2) (h3 : pR x3) : OP X M 16 148 [.inl x1, .inl x2, .inl x3, fx_u] [.inl x1, .inl x2, .inl x3, fx_u] := by
  obtain ⟨S1, S2, hA, hO, hH, hi, hi2, hz, hz2⟩ := sD_of hI.1
  by_cases hp : (0 ≤ x1 ∧ x1 < 6) ∧ (0 ≤ x2 ∧ x2 < 24)
  · obtain ⟨p, rfl⟩ := nat_of hp.1.1
    obtain ⟨e, rfl⟩ := nat_of hp.2.1
    have hk : 24 * p + e < 144 := by omega
    have ek : 24 * (p : Int) + (e : Int) = ((24 * p + e : Nat) : Int) := by push_cast; rfl
    have c0 : ∀ z M', Ev X 16 8 [fx_f 0, .inl (p : Int), .inl (e : Int), .inl x3, fx_u] [] M (some (.inl z)) M' → Ev X 16 0 [fx_f 0, .inl (p : Int), .inl (e : Int), .inl x3, fx_u] [] M (some (.inl z)) M' := fun z M' k => r16_0 (ev_isPanel_y hp.1) (r16_2F (by omega) (by omega) (r16_3 (ev_isEnd_y hp.2) (r16_5T (by omega) (by omega) k)))
    have m0 : ∀ (M1 M2 : fx_M) z M', Ev X 149 0 [fx_f 56, fx_u, fx_u, fx_u] [] M1 none M2 → Ev X 148 14 [fx_f 56, .inl (p : Int), .inl (e : Int), .inl x3, .inl ((24 * p + e : Nat) : Int)] [] M2 (some (.inl z)) M' → Ev X 148 0 [fx_f 56, .inl (p : Int), .inl (e : Int), .inl x3, fx_u] [] M1 (some (.inl z)) M' := by
      intro M1 M2 z M' l1 k
      refine r148_0 (evm_isEnd_y hp.1 hp.2) (r148_3T (by omega) (by omega) (r148_6 l1 ?_))
      rw [ek]
      exact k
    obtain ⟨M2, l1, l2, l3, T2, e57, eh, eO, eH⟩ := lay_D (X := X) hI.1 (frC_r M)
    by_cases hx : x3 < 0 ∨ 3 < x3
    · refine OP_read hI (c0 _ _ ?_) (frC_r M) (m0 _ _ _ _ l1 (r148_14D h3 hx r148_56)) l3 (by decide)
      by_cases hx0 : x3 < 0
      · exact r16_8T h3 hx0 r16_13
      · exact r16_8F h3 (by omega) (r16_10F h3 (by omega) r16_13)
    have c1 : ∀ z M', Ev X 16 18 [fx_f 0, .inl (p : Int), .inl (e : Int), .inl x3, fx_u] [.inl ((24 * p + e : Nat) : Int)] M (some (.inl z)) M' → Ev X 16 0 [fx_f 0, .inl (p : Int), .inl (e : Int), .inl x3, fx_u] [] M (some (.inl z)) M' := fun z M' k => c0 z M' (r16_8F h3 (by omega) (r16_10T h3 (by omega) (r16_15 ev_placeOf k)))
    by_cases x1' : x3 = 1
    · have b := z_how_rg (ph M 1) (24 * p + e)
      have mw := evm_how (X := X) T2 hk
      rw [eh, ← z_how_x hA hk] at mw
      exact OP_read hI (c1 _ _ (r16_18F h3 x1' (r16_22 (ev_howEndIs S1 hk) r16_26))) (frC_r M) (m0 _ _ _ _ l1 (r148_14c1 x1' (r148_29 mw r148_32))) l3 (by constructor <;> omega)
    have c2 : ∀ z M', Ev X 16 31 [fx_f 0, .inl (p : Int), .inl (e : Int), .inl x3, .inl ((24 * p + e : Nat) : Int)] [.inl (if ph M 1 (24 * p + e) = true then 1 else 0)] M (some (.inl z)) M' → Ev X 16 0 [fx_f 0, .inl (p : Int), .inl (e : Int), .inl x3, fx_u] [] M (some (.inl z)) M' := fun z M' k => c1 z M' (r16_18T h3 x1' (r16_27 (ev_hasN S1 hk) k))
    have mhs := evm_has (X := X) T2 hk
    have ehk : mh M2 (24 * p + e) = ph M 1 (24 * p + e) := by rw [eh, hA _ hk]
    rw [ehk] at mhs
    by_cases hs : ph M 1 (24 * p + e) = true
    · rw [if_pos hs] at c2 mhs
      have hP := (ph_P (M := M) hk).mp hs
      by_cases x0 : x3 = 0
      · have b := S1.2.1 _ hk
        have b' : -1 ≤ M 2 (24 * p + e) ∧ M 2 (24 * p + e) < 24 := b
        have hr : pR (M 2 (24 * p + e)) := by constructor <;> omega
        refine OP_read (z := M 2 (24 * p + e)) hI (c2 _ _ (r16_31T (by omega) (by omega) (r16_34c0 x0 (r16_36 (ev_otherEnd S1 hk) r16_40)))) (frC_r M) (m0 _ _ _ _ l1 (r148_14c0 x0 (r148_16 mhs (r148_19F (by omega) (by omega) (Ev.res ?_ (r148_20 (by omega))))))) l3 hr
        rw [show ((24 * p + e : Nat) : Int).toNat = 24 * p + e by omega, e57, ← hO _ hk]
        rfl
      · by_cases x2' : x3 = 2
        · obtain ⟨M1, t1, t2, t3, t4⟩ := trace_D (X := X) hI.1
          obtain ⟨M3, k1, k2, k3, U2, f57, fh, -⟩ := lay_D (X := X) hI.1 t3
          have el := lineAt_eq t2 k2 hP
          have mh3 := evm_has (X := X) U2 hk
          rw [fh, ← hA _ hk, if_pos hs] at mh3
          refine OP_read (z := M1 10 (24 * p + e)) hI (c2 _ _ (r16_31T (by omega) (by omega) (r16_34c2 x2' (r16_41 t1 (r16_46 (ev_l46 hk) r16_50))))) t3 (m0 _ _ _ _ k1 (r148_14c2 x2' (r148_33 mh3 (r148_36F (by omega) (by omega) (Ev.res ?_ (r148_37 (by omega))))))) k3 (by constructor <;> omega)
          rw [show ((24 * p + e : Nat) : Int).toNat = 24 * p + e by omega, el.1]
        · have x3' : x3 = 3 := by omega
          have b := z_cr_b (M 2) (24 * p + e)
          have hr : pR (z_cr (M 2) (24 * p + e) : Int) := by constructor <;> omega
          have mc := evm_crossing (X := X) T2 (by rw [eO]; exact hi2) hk (by rw [eO, hO _ hk]; exact hP.2)
          rw [eO, z_cr_x hO hk] at mc
          exact OP_read hI (c2 _ _ (r16_31T (by omega) (by omega) (r16_34D h3 (by omega) (r16_51 (ev_crossingsOf S1 hk) r16_55)))) (frC_r M) (m0 _ _ _ _ l1 (r148_14c3 x3' (r148_46 mhs (r148_49F (by omega) (by omega) (r148_50 mc r148_53))))) l3 hr
    · rw [if_neg hs] at c2 mhs
      refine OP_read (z := -6) hI (c2 _ _ (r16_31F (by omega) rfl r16_32)) (frC_r M) (m0 _ _ _ _ l1 ?_) l3 (by decide)
      by_cases x0 : x3 = 0
      · exact r148_14c0 x0 (r148_16 mhs (r148_19T (by omega) rfl r148_27))
      · by_cases x2' : x3 = 2
        · exact r148_14c2 x2' (r148_33 mhs (r148_36T (by omega) rfl r148_44))
        · exact r148_14c3 (by omega) (r148_46 mhs (r148_49T (by omega) rfl r148_54))
  · refine OP_read (z := -1) hI ?_ (frC_r M) (r148_0 (evm_isEnd_n h1 h2 (by omega)) (r148_3F (by omega) rfl r148_4)) (frM_r M) (by decide)
    by_cases h0 : 0 ≤ x1 ∧ x1 < 6
    · exact r16_0 (ev_isPanel_y h0) (r16_2F (by omega) (by omega) (r16_3 (ev_isEnd_n h2 (by omega)) (r16_5F (by omega) rfl r16_6)))
    · exact r16_0 (ev_isPanel_n h1 (by omega)) (r16_2T (by omega) rfl r16_6)
end OPA

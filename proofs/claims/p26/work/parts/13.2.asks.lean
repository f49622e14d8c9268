/-! what is asked, and what is answered -/
noncomputable def zn (O : Nat → Int) : Nat := (zN O 144).length
section ASK
variable {X : fx_Sc} {M M' T : fx_M}
theorem ask_endN {x1 x2 x3 : Int} (h1 : pR x1) (h2 : pR x2) (h : x1 < 0 ∨ 6 ≤ x1 ∨ x2 < 0 ∨ 24 ≤ x2) : Ev X 16 0 [fx_f 0, .inl x1, .inl x2, .inl x3, fx_u] [] M (some (.inl (-1))) M := by
  by_cases h0 : 0 ≤ x1 ∧ x1 < 6
  · exact r16_0 (ev_isPanel_y h0) (r16_2F (by omega) (by omega) (r16_3 (ev_isEnd_n h2 (by omega)) (r16_5F (by omega) rfl r16_6)))
  · exact r16_0 (ev_isPanel_n h1 (by omega)) (r16_2T (by omega) rfl r16_6)
theorem end_c0 {p e : Nat} {x3 : Int} (hp : p < 6) (he : e < 24) (h3 : 0 ≤ x3 ∧ x3 ≤ 3) {z : Int} (k : Ev X 16 18 [fx_f 0, .inl (p : Int), .inl (e : Int), .inl x3, fx_u] [.inl ((24 * p + e : Nat) : Int)] M (some (.inl z)) M') : Ev X 16 0 [fx_f 0, .inl (p : Int), .inl (e : Int), .inl x3, fx_u] [] M (some (.inl z)) M' :=
  r16_0 (ev_isPanel_y (by omega)) (r16_2F (by omega) (by omega) (r16_3 (ev_isEnd_y (by omega)) (r16_5T (by omega) (by omega) (r16_8F (by omega) (by omega) (r16_10T (by omega) (by omega) (r16_15 ev_placeOf k))))))
theorem ask_end1 {p e : Nat} (h : sC M 1) (hp : p < 6) (he : e < 24) : Ev X 16 0 [fx_f 0, .inl (p : Int), .inl (e : Int), .inl 1, fx_u] [] M (some (.inl (z_how (ph M 1) (24 * p + e)))) M :=
  end_c0 hp he (by omega) (r16_18F (by omega) rfl (r16_22 (ev_howEndIs h.1 (by omega)) r16_26))
theorem end_c2 {p e : Nat} {x3 : Int} (h : sC M 1) (hp : p < 6) (he : e < 24) (h3 : 0 ≤ x3 ∧ x3 ≤ 3) (hne : x3 ≠ 1) {z : Int} (k : Ev X 16 31 [fx_f 0, .inl (p : Int), .inl (e : Int), .inl x3, .inl ((24 * p + e : Nat) : Int)] [.inl (if ph M 1 (24 * p + e) = true then 1 else 0)] M (some (.inl z)) M') : Ev X 16 0 [fx_f 0, .inl (p : Int), .inl (e : Int), .inl x3, fx_u] [] M (some (.inl z)) M' :=
  end_c0 hp he h3 (r16_18T (by omega) hne (r16_27 (ev_hasN h.1 (by omega)) k))
theorem ask_endO {p e : Nat} {x3 : Int} (h : sC M 1) (hp : p < 6) (he : e < 24) (h3 : 0 ≤ x3 ∧ x3 ≤ 3) (hne : x3 ≠ 1) (hP : ¬ ph M 1 (24 * p + e) = true) : Ev X 16 0 [fx_f 0, .inl (p : Int), .inl (e : Int), .inl x3, fx_u] [] M (some (.inl (-6))) M := by
  refine end_c2 h hp he h3 hne ?_
  rw [if_neg hP]
  exact r16_31F (by omega) rfl r16_32
theorem ask_end0 {p e : Nat} (h : sC M 1) (hp : p < 6) (he : e < 24) : Ev X 16 0 [fx_f 0, .inl (p : Int), .inl (e : Int), .inl 0, fx_u] [] M (some (.inl (if ph M 1 (24 * p + e) = true then M 2 (24 * p + e) else -6))) M := by
  by_cases hP : ph M 1 (24 * p + e) = true
  · rw [if_pos hP]
    refine end_c2 h hp he (by omega) (by omega) ?_
    rw [if_pos hP]
    exact r16_31T (by omega) (by omega) (r16_34c0 rfl (r16_36 (ev_otherEnd h.1 (by omega)) r16_40))
  · rw [if_neg hP]
    exact ask_endO h hp he (by omega) (by omega) hP
theorem ask_end2 {p e : Nat} (h : sC M 1) (hT : cL (M 2) (M 3) T 144) (hp : p < 6) (he : e < 24) (hP : ph M 1 (24 * p + e) = true) : ∃ M1, Ev X 16 0 [fx_f 0, .inl (p : Int), .inl (e : Int), .inl 2, fx_u] [] M (some (.inl (T 10 (24 * p + e)))) M1 ∧ frC M1 M := by
  obtain ⟨M1, t1, t2, t3⟩ := trace_D (X := X) h
  have hk : 24 * p + e < 144 := by omega
  have el := (cL_un t2 hT).2.1 _ hk ((ph_P hk).mp hP)
  refine ⟨M1, end_c2 h hp he (by omega) (by omega) ?_, t3⟩
  rw [if_pos hP]
  exact r16_31T (by omega) (by omega) (r16_34c2 rfl (r16_41 t1 (r16_46 (Ev.res el (ev_l46 hk)) r16_50)))
theorem pan_c0 {p : Nat} {x2 : Int} (hp : p < 6) {z : Int} (k : Ev X 19 5 [fx_f 0, .inl (p : Int), .inl x2] [] M (some (.inl z)) M') : Ev X 19 0 [fx_f 0, .inl (p : Int), .inl x2] [] M (some (.inl z)) M' := r19_0 (ev_isPanel_y (by omega)) (r19_2T (by omega) (by omega) k)
theorem ask_pan0 {p : Nat} (h : sC M 1) (hp : p < 6) : Ev X 19 0 [fx_f 0, .inl (p : Int), .inl 0] [] M (some (.inl (z_str (ph M 1) p : Int))) M := pan_c0 hp (r19_5c0 rfl (r19_7 (ev_strokesIn h.1 hp) r19_11))
theorem ask_pan1 {p : Nat} (h : sC M 1) (hp : p < 6) : Ev X 19 0 [fx_f 0, .inl (p : Int), .inl 1] [] M (some (.inl (M 3 p))) M := pan_c0 hp (r19_5c1 rfl (r19_12 (ev_handOf h.1 hp) r19_16))
theorem ask_pan2 {p : Nat} (h : sC M 1) (hp : p < 6) : Ev X 19 0 [fx_f 0, .inl (p : Int), .inl 2] [] M (some (.inl (z_edge (ph M 1) (2 * p) : Int))) M := pan_c0 hp (r19_5c2 rfl (r19_17 ev_upper (r19_21 (ev_edgeSet h.1 (by omega)) r19_22)))
theorem ask_pan3 {p : Nat} (h : sC M 1) (hp : p < 6) : Ev X 19 0 [fx_f 0, .inl (p : Int), .inl 3] [] M (some (.inl (z_edge (ph M 1) (2 * p + 1) : Int))) M := pan_c0 hp (r19_5c3 rfl (r19_23 ev_lower (r19_27 (ev_edgeSet h.1 (by omega)) r19_28)))
theorem ask_pan4 {p : Nat} (h : sC M 1) (hp : p < 6) : Ev X 19 0 [fx_f 0, .inl (p : Int), .inl 4] [] M (some (.inl (z_prs (M 2) p : Int))) M := pan_c0 hp (r19_5c4 rfl (r19_29 (ev_pairsIn h.1 hp) r19_33))
theorem ask_pan5 {p : Nat} (h : sC M 1) (hp : p < 6) : Ev X 19 0 [fx_f 0, .inl (p : Int), .inl 5] [] M (some (.inl ((pb_c (fun e => decide (z_how (ph M 1) (24 * p + e) = 2)) 24 : Nat) : Int))) M := pan_c0 hp (r19_5c5 rfl (r19_34 (ev_looseEndsIn h.1 hp) r19_38))
theorem ask_foldN {x1 x2 : Int} (h1 : pR x1) (h : x1 < 0 ∨ 5 ≤ x1) : Ev X 20 0 [fx_f 0, .inl x1, .inl x2] [] M (some (.inl (-1))) M := r20_0 (ev_isFold_n h1 h) (r20_2F (by omega) rfl r20_3)
theorem fold_c0 {p : Nat} {x2 : Int} (hp : p < 5) {z : Int} (k : Ev X 20 5 [fx_f 0, .inl (p : Int), .inl x2] [] M (some (.inl z)) M') : Ev X 20 0 [fx_f 0, .inl (p : Int), .inl x2] [] M (some (.inl z)) M' := r20_0 (ev_isFold_y (by omega)) (r20_2T (by omega) (by omega) k)
theorem ask_fold0 {p : Nat} (h : sC M 1) (hp : p < 5) : Ev X 20 0 [fx_f 0, .inl (p : Int), .inl 0] [] M (some (.inl (z_edge (ph M 1) (2 * p + 1) : Int))) M := fold_c0 hp (r20_5c0 rfl (r20_7 (ev_marksAt h.1 (by omega)) r20_11))
theorem ask_fold1 {p : Nat} (h : sC M 1) (hp : p < 5) : Ev X 20 0 [fx_f 0, .inl (p : Int), .inl 1] [] M (some (.inl (fx_and (z_edge (ph M 1) (2 * p + 1) : Int) (z_edge (ph M 1) (2 * (p + 1)) : Int)))) M := fold_c0 hp (r20_5c1 rfl (r20_12 (ev_marksAt h.1 (by omega)) (r20_16 (ev_startsAt h.1 hp) r20_20)))
theorem ask_fold2 {p : Nat} (h : sC M 1) (hp : p < 5) : Ev X 20 0 [fx_f 0, .inl (p : Int), .inl 2] [] M (some (.inl (z_f0 (ph M 1) p : Int))) M := fold_c0 hp (r20_5c2 rfl (r20_22 (ev_missedAt h.1 hp) r20_26))
theorem ask_fold3 {p : Nat} (h : sC M 1) (hp : p < 5) : Ev X 20 0 [fx_f 0, .inl (p : Int), .inl 3] [] M (some (.inl (z_f1 (ph M 1) p : Int))) M := fold_c0 hp (r20_5c3 rfl (r20_27 (ev_unmarkedAt h.1 hp) r20_31))
theorem hand_c0 {p : Nat} {x2 : Int} (hp : p < 6) {z : Int} (k : Ev X 22 5 [fx_f 0, .inl (p : Int), .inl x2] [] M (some (.inl z)) M') : Ev X 22 0 [fx_f 0, .inl (p : Int), .inl x2] [] M (some (.inl z)) M' := r22_0 (ev_isHand_y (by omega)) (r22_2T (by omega) (by omega) k)
theorem ask_hand0 {p : Nat} (h : sC M 1) (hp : p < 6) : Ev X 22 0 [fx_f 0, .inl (p : Int), .inl 0] [] M (some (.inl ((pb_s (fun q => decide (M 3 q = (p : Int))) 6 : Nat) : Int))) M := hand_c0 hp (r22_5c0 rfl (r22_7 (ev_panelsOf h.1 (by constructor <;> omega)) r22_11))
theorem ask_hand1 {p : Nat} (h : sC M 1) (hp : p < 6) : Ev X 22 0 [fx_f 0, .inl (p : Int), .inl 1] [] M (some (.inl ((pb_n (fun q => if M 3 q = (p : Int) then z_str (ph M 1) q else 0) 6 : Nat) : Int))) M := hand_c0 hp (r22_5c1 rfl (r22_12 (ev_strokesOf h.1 (by constructor <;> omega)) r22_16))
theorem ask_hand2 {p : Nat} (h : sC M 1) (hp : p < 6) : Ev X 22 0 [fx_f 0, .inl (p : Int), .inl 2] [] M (some (.inl (((pb_n (fun f => if M 3 (f + 1) = (p : Int) then z_c0 (ph M 1) f else 0) 5 : Nat) : Int) + ((pb_n (fun f => if M 3 (f + 1) = (p : Int) then z_c1 (ph M 1) f else 0) 5 : Nat) : Int)))) M := hand_c0 hp (r22_5c2 rfl (r22_17 (ev_missedOf h.1 (by constructor <;> omega)) (r22_21 (ev_unmarkedOf h.1 (by constructor <;> omega)) r22_25)))
theorem ask_hand3 {p : Nat} (h : sC M 1) (hp : p < 6) : Ev X 22 0 [fx_f 0, .inl (p : Int), .inl 3] [] M (some (.inl ((pb_n (fun f => if M 3 (f + 1) = (p : Int) then z_c1 (ph M 1) f else 0) 5 : Nat) : Int))) M := hand_c0 hp (r22_5c3 rfl (r22_27 (ev_unmarkedOf h.1 (by constructor <;> omega)) r22_31))
theorem ask_cnt0 (h : sC M 1) : Ev X 24 0 [fx_f 0, .inl 0] [] M (some (.inl ((pb_n (z_str (ph M 1)) 6 : Nat) : Int))) M := r24_0c0 rfl (r24_2 (ev_strokes h.1) r24_5)
theorem ask_cnt3 (h : sC M 1) : Ev X 24 0 [fx_f 0, .inl 3] [] M (some (.inl (z_loose (ph M 1) : Int))) M := r24_0c3 rfl (r24_6 (ev_looseEnds h.1) r24_9)
theorem ask_cnt5 (h : sC M 1) : Ev X 24 0 [fx_f 0, .inl 5] [] M (some (.inl (z_loose (ph M 1) : Int))) M := r24_0c5 rfl (r24_6 (ev_looseEnds h.1) r24_9)
theorem ask_cnt4 (h : sC M 1) : Ev X 24 0 [fx_f 0, .inl 4] [] M (some (.inl (z_free (ph M 1) : Int))) M := r24_0c4 rfl (r24_10 (ev_freeEnds h.1) r24_13)
/-- what a trace leaves, told by an elder one -/
theorem trace_T (h : sC M 1) (hT : cL (M 2) (M 3) T 144) : ∃ M1, Ev X 41 0 [fx_f 9, fx_f 1, fx_u] [] M none M1 ∧ frC M1 M ∧ M1 9 0 = (zn (M 2) : Int) ∧ lOK (M1 11) (M1 12) (M1 14) (M1 15) (M1 16) (zn (M 2)) ∧ (∀ i, i < zn (M 2) → M1 11 i = T 11 i ∧ M1 12 i = T 12 i ∧ M1 13 i = T 13 i ∧ M1 14 i = T 14 i ∧ M1 15 i = T 15 i ∧ M1 16 i = T 16 i) := by
  obtain ⟨M1, t1, t2, t3⟩ := trace_D (X := X) h
  exact ⟨M1, t1, t3, t2.1, cL_ok (zr_of h) t2, (cL_un t2 hT).2.2⟩
theorem ask_cnt1 (h : sC M 1) : ∃ M1, Ev X 24 0 [fx_f 0, .inl 1] [] M (some (.inl (zn (M 2) : Int))) M1 ∧ frC M1 M := by
  obtain ⟨M1, t1, t2, t3⟩ := trace_D (X := X) h
  exact ⟨M1, r24_0c1 rfl (r24_26 t1 (r24_31 (r25_0c1 rfl (r25_2 (Ev.res t2.1 r49_0) r25_5)) r24_34)), t3⟩
theorem ask_cnt2 (h : sC M 1) (hT : cL (M 2) (M 3) T 144) : ∃ M1, Ev X 24 0 [fx_f 0, .inl 2] [] M (some (.inl (l_lp (T 16) (zn (M 2)) : Int))) M1 ∧ frC M1 M := by
  obtain ⟨M1, t1, t2, t3, t4, t5⟩ := trace_T (X := X) h hT
  have e : l_lp (M1 16) (zn (M 2)) = l_lp (T 16) (zn (M 2)) := by
    unfold l_lp
    exact pb_c_ext fun i hi => by rw [(t5 i hi).2.2.2.2.2]
  rw [← e]
  exact ⟨M1, r24_0c2 rfl (r24_26 t1 (r24_31 (r25_0c2 rfl (r25_6 (ev_l55 t3 t4) r25_9)) r24_34)), t2⟩
theorem ask_cnt7 (h : sC M 1) (hT : cL (M 2) (M 3) T 144) : ∃ M1, Ev X 24 0 [fx_f 0, .inl 7] [] M (some (.inl (l_mx (T 11) (zn (M 2))))) M1 ∧ frC M1 M := by
  obtain ⟨M1, t1, t2, t3, t4, t5⟩ := trace_T (X := X) h hT
  rw [← l_mx_e fun i hi => (t5 i hi).1]
  exact ⟨M1, r24_0c7 rfl (r24_26 t1 (r24_31 (r25_0c7 rfl (r25_10 (ev_l56 t3 t4) r25_13)) r24_34)), t2⟩
theorem ask_cnt8 (h : sC M 1) (hT : cL (M 2) (M 3) T 144) : ∃ M1, Ev X 24 0 [fx_f 0, .inl 8] [] M (some (.inl (l_tb (T 16) (T 14) (T 15) (zn (M 2)) : Int))) M1 ∧ frC M1 M := by
  obtain ⟨M1, t1, t2, t3, t4, t5⟩ := trace_T (X := X) h hT
  have e : l_tb (M1 16) (M1 14) (M1 15) (zn (M 2)) = l_tb (T 16) (T 14) (T 15) (zn (M 2)) := by
    unfold l_tb
    exact pb_c_ext fun i hi => by rw [(t5 i hi).2.2.2.2.2, (t5 i hi).2.2.2.1, (t5 i hi).2.2.2.2.1]
  rw [← e]
  exact ⟨M1, r24_0c8 rfl (r24_26 t1 (r24_31 (r25_0c8 rfl (r25_14 (ev_l57 t3 t4) r25_17)) r24_34)), t2⟩
theorem ask_lineN {x1 x2 : Int} (h : sC M 1) (h1 : pR x1) (hx : x1 < 0 ∨ (zn (M 2) : Int) ≤ x1) : ∃ M1, Ev X 23 0 [fx_f 0, .inl x1, .inl x2] [] M (some (.inl (-1))) M1 ∧ frC M1 M := by
  obtain ⟨M1, t1, t2, t3⟩ := trace_D (X := X) h
  have h72 : zn (M 2) ≤ 72 := (cL_ok (zr_of h) t2).1
  have n1 : M1 9 0 = (zn (M 2) : Int) := t2.1
  refine ⟨M1, r23_0 t1 ?_, t3⟩
  by_cases hn : x1 < 0
  · exact r23_5T h1 hn r23_12
  · exact r23_5F h1 (by omega) (r23_7 r49_0 (r23_11F (by rw [n1]; omega) (by rw [n1]; omega) r23_12))
theorem line_c0 {i : Nat} {x2 : Int} (h : sC M 1) (hT : cL (M 2) (M 3) T 144) (hi : i < zn (M 2)) : ∃ M1, frC M1 M ∧ (M1 11 i = T 11 i ∧ M1 12 i = T 12 i ∧ M1 13 i = T 13 i ∧ M1 14 i = T 14 i ∧ M1 15 i = T 15 i ∧ M1 16 i = T 16 i) ∧ (M1 16 i = 0 ∨ M1 16 i = 1) ∧ i < 72 ∧ ∀ z M', Ev X 23 14 [fx_f 0, .inl (i : Int), .inl x2] [] M1 (some (.inl z)) M' → Ev X 23 0 [fx_f 0, .inl (i : Int), .inl x2] [] M (some (.inl z)) M' := by
  obtain ⟨M1, t1, t2, t3, t4, t5⟩ := trace_T (X := X) h hT
  have h72 := t4.1
  exact ⟨M1, t2, t5 i hi, (t4.2 i hi).2.2.2.2, by omega, fun z M' k => r23_0 t1 (r23_5F (by omega) (by omega) (r23_7 r49_0 (r23_11T (by rw [t3]; omega) (by rw [t3]; omega) k)))⟩
theorem ask_line0 {i : Nat} (h : sC M 1) (hT : cL (M 2) (M 3) T 144) (hi : i < zn (M 2)) : ∃ M1, Ev X 23 0 [fx_f 0, .inl (i : Int), .inl 0] [] M (some (.inl (T 11 i))) M1 ∧ frC M1 M := by
  obtain ⟨M1, t1, t2, t3, t4, t5⟩ := line_c0 (X := X) (x2 := 0) h hT hi
  exact ⟨M1, t5 _ _ (r23_14c0 rfl (r23_16 (Ev.res t2.1 (ev_l50 t4)) r23_20)), t1⟩
theorem ask_line1 {i : Nat} (h : sC M 1) (hT : cL (M 2) (M 3) T 144) (hi : i < zn (M 2)) : ∃ M1, Ev X 23 0 [fx_f 0, .inl (i : Int), .inl 1] [] M (some (.inl (T 16 i))) M1 ∧ frC M1 M := by
  obtain ⟨M1, t1, t2, t3, t4, t5⟩ := line_c0 (X := X) (x2 := 1) h hT hi
  refine ⟨M1, t5 _ _ (r23_14c1 rfl (r23_21 (ev_l51 t4 t3) ?_)), t1⟩
  rw [← t2.2.2.2.2.2]
  rcases t3 with t3 | t3
  · rw [t3]; exact r23_25T (by omega) rfl r23_28
  · rw [t3]; exact r23_25F (by omega) (by omega) r23_26
theorem ask_line2 {i : Nat} (h : sC M 1) (hT : cL (M 2) (M 3) T 144) (hi : i < zn (M 2)) : ∃ M1, Ev X 23 0 [fx_f 0, .inl (i : Int), .inl 2] [] M (some (.inl (T 12 i))) M1 ∧ frC M1 M := by
  obtain ⟨M1, t1, t2, t3, t4, t5⟩ := line_c0 (X := X) (x2 := 2) h hT hi
  exact ⟨M1, t5 _ _ (r23_14c2 rfl (r23_30 (Ev.res t2.2.1 (ev_l48 t4)) r23_34)), t1⟩
theorem ask_line3 {i : Nat} (h : sC M 1) (hT : cL (M 2) (M 3) T 144) (hi : i < zn (M 2)) : ∃ M1, Ev X 23 0 [fx_f 0, .inl (i : Int), .inl 3] [] M (some (.inl (T 13 i))) M1 ∧ frC M1 M := by
  obtain ⟨M1, t1, t2, t3, t4, t5⟩ := line_c0 (X := X) (x2 := 3) h hT hi
  exact ⟨M1, t5 _ _ (r23_14c3 rfl (r23_35 (Ev.res t2.2.2.1 (ev_l52 t4)) r23_39)), t1⟩
theorem ask_line4 {i : Nat} (h : sC M 1) (hT : cL (M 2) (M 3) T 144) (hi : i < zn (M 2)) : ∃ M1, Ev X 23 0 [fx_f 0, .inl (i : Int), .inl 4] [] M (some (.inl (T 14 i))) M1 ∧ frC M1 M := by
  obtain ⟨M1, t1, t2, t3, t4, t5⟩ := line_c0 (X := X) (x2 := 4) h hT hi
  exact ⟨M1, t5 _ _ (r23_14c4 rfl (r23_40 (Ev.res t2.2.2.2.1 (ev_l53 t4)) r23_44)), t1⟩
theorem ask_line5 {i : Nat} (h : sC M 1) (hT : cL (M 2) (M 3) T 144) (hi : i < zn (M 2)) : ∃ M1, Ev X 23 0 [fx_f 0, .inl (i : Int), .inl 5] [] M (some (.inl (T 15 i))) M1 ∧ frC M1 M := by
  obtain ⟨M1, t1, t2, t3, t4, t5⟩ := line_c0 (X := X) (x2 := 5) h hT hi
  exact ⟨M1, t5 _ _ (r23_14c5 rfl (r23_45 (Ev.res t2.2.2.2.2.1 (ev_l54 t4)) r23_49)), t1⟩
end ASK

/-! the law, from its first call to its last -/
theorem bs_zero {Q : Int → Bool} {V : Int → Nat} (n : Nat) : bs Q V 0 n = (0, 0) := by
  induction n with
  | zero => rfl
  | succ n ih =>
    rw [bs_2, ih]
    rw [ih]
    intro h
    have h2 : (V (cS n) : Int) < 0 := h.2
    omega
theorem bx_zero {V : Nat → Nat → Nat} (h : ∀ p q, p < 6 → q < 6 → V p q = 0) (n : Nat) (hn : n ≤ 34) : bx V 145 (n + 2) = (1, 0) := by
  induction n with
  | zero =>
    rw [show 0 + 2 = 1 + 1 from rfl, bx_1]
    · rw [h _ _ (by omega) (by omega)]; rfl
    · refine ⟨by decide, ?_⟩
      rw [h _ _ (by omega) (by omega), bx_2 (by omega)]
      show (0 : Int) < 145
      omega
  | succ n ih =>
    have ih := ih (by omega)
    rw [show n + 1 + 2 = (n + 2) + 1 by omega, bx_2, ih]
    rw [ih, h _ _ (by omega) (by omega)]
    intro q
    have q2 : ((0 : Nat) : Int) < 0 := q.2
    omega
theorem loose_none {P : Nat → Bool} (h : ∀ k, k < 144 → P k = false) : z_loose P = 0 := by
  unfold z_loose
  refine pb_n_zero fun f hf => ?_
  unfold z_lf
  exact pb_c_none fun c hc => by rw [h _ (by omega), h (24 * f + 24 + c) (by omega)]; rfl
theorem zn_none {O : Nat → Int} (h : ∀ k, k < 144 → O k = -1) : zn O = 0 := by
  unfold zn
  rw [List.length_eq_zero_iff, List.eq_nil_iff_forall_not_mem]
  intro s hs
  have := (zN_in hs).1
  exact this.2 (h s this.1)
section LAW
variable {X : fx_Sc} {M M' T : fx_M}
/-- the first calls, on a new object -/
theorem law_new (h : cI M) (h19 : M 19 1 = 0) (h47 : M 47 0 = 0) (h2 : ∀ k, k < 144 → M 2 k = -1) : ∃ M1, cI M1 ∧ ∀ r M', Ev X 191 30 [fx_f 56, fx_f 0, .inl 1, .inl 0, fx_u] [] M1 r M' → Ev X 191 0 [fx_f 56, fx_f 0, fx_u, fx_u, fx_u] [] M r M' := by
  have hP : ∀ k, k < 144 → ph M 1 k = false := fun k hk => by
    show decide (M 2 k ≠ -1) = false
    rw [h2 k hk]; rfl
  have w0 := loose_none hP
  obtain ⟨M1, k1, f1⟩ := ask_cnt1 (X := X) h.1
  rw [zn_none h2] at k1
  obtain ⟨M2, k2, f2⟩ := ask_bestS (X := X) (x2 := 0) (p := 0) (sC_r h.1 f1) (by omega) (by omega)
  rw [if_pos rfl, show ph M1 1 = ph M 1 from ph_fr f1, w0, bs_zero] at k2
  have f2 := frC_t f2 f1
  obtain ⟨M3, k3, f3⟩ := ask_bestX (X := X) (x1 := 0) (sC_r h.1 f2) (by omega)
  rw [if_pos rfl, f2 2 (by omega), show (36 : Nat) = 34 + 2 from rfl, bx_zero (V := vX (M 2)) (fun p q hp hq => loose_none fun k hk => by
    rw [decide_eq_false_iff_not, Classical.not_not]
    unfold z_swp
    split
    · exact h2 _ (by omega)
    · split
      · exact h2 _ (by omega)
      · exact h2 k hk) 34 (by omega)] at k3
  have f3 := frC_t f3 f2
  exact ⟨M3, cI_r h f3, fun r M' k => r191_0 (act_undoN h19) (r191_2F (by omega) rfl (r191_4 (act_restoreN (x := 0) (by omega) h47) (r191_7F (by omega) rfl (r191_9 k1 (r191_12F (by omega) rfl (r191_13 k2 (r191_17F (by decide) rfl (r191_19 k3 (r191_22F (by decide) rfl (r191_24 k))))))))))⟩
/-- the acts -/
theorem law_forty (hX : X.1 < 2147483648) : ∀ (n i : Nat) (M : fx_M), i + n = 40 → cI M → ∃ M1, cI M1 ∧ ∀ r M', Ev X 191 54 [fx_f 56, fx_f 0, .inl 1, .inl ((40 : Nat) : Int), fx_u] [] M1 r M' → Ev X 191 30 [fx_f 56, fx_f 0, .inl 1, .inl (i : Int), fx_u] [] M r M' := by
  intro n
  induction n with
  | zero =>
    intro i M hi h
    have : i = 40 := by omega
    subst this
    exact ⟨M, h, fun r M' k => r191_30T (by omega) (by omega) k⟩
  | succ n ih =>
    intro i M hi h
    obtain ⟨c, hc, k1⟩ := ev_cell (X := X) (M := M) (x := i) hX (by omega)
    obtain ⟨M1, k2, h1⟩ := law_acts (X := X) h hc
    obtain ⟨M2, h2, k3⟩ := ih (i + 1) M1 (by omega) h1
    have e13 : fx_rem (i : Int) 13 = ((i % 13 : Nat) : Int) := pb_rem (d := 13) (by omega) (by omega) (by omega)
    have fo := law_folds (X := X) h1.1
    refine ⟨M2, h2, fun r M' k => r191_30F (by omega) (by omega) (r191_33F (by omega) (by omega) (r191_35 k1 (r191_39 k2 (r191_40F (by omega) (by omega) ?_))))⟩
    have k4 := k3 r M' k
    by_cases q : 0 < ((i % 13 : Nat) : Int)
    · exact r191_41T (by rw [e13]; omega) (by rw [e13]; exact q) (r191_48 k4)
    · exact r191_41F (by rw [e13]; omega) (by rw [e13]; omega) (r191_45 fo (r191_47F (by omega) (by omega) (r191_48 k4)))
/-- the last calls -/
theorem law_last (h : cI M) {x3 : Int} : ∃ M', Ev X 191 54 [fx_f 56, fx_f 0, .inl 1, .inl x3, fx_u] [] M (some (.inl 1)) M' := by
  have sb := str_b (ph M 1)
  have lb := z_loose_b (ph M 1)
  have a0 := ask_cnt0 (X := X) h.1
  have a3 := ask_cnt3 (X := X) h.1
  obtain ⟨M1, k1, f1⟩ := law_ends (X := X) h.1
  have k2 := law_folds (X := X) (sC_r h.1 f1)
  obtain ⟨M2, k3, f2⟩ := law_lines (X := X) (sC_r h.1 f1)
  have f2 := frC_t f2 f1
  have c2 := cI_r h f2
  obtain ⟨M3, k4, c3, s1, s2, s3, s4⟩ := act_save (X := X) (x := 1) c2 (by omega)
  rw [show ph M2 1 = ph M 1 from ph_fr f2] at k4
  obtain ⟨M4, k5, c4, e4, -, g4, -⟩ := act_clear (X := X) (p := 2) c3 (by omega)
  obtain ⟨M5, k6, c5, e5, -, g5, -⟩ := act_turn (X := X) (p := 3) (x := 1) c4 (by omega) (by omega)
  obtain ⟨M6, k7, c6, e6, -, -, a, n, ha, hn, t1, t2, t3⟩ := act_restore (X := X) (x := 1) c5 (by omega) (by rw [g5 47 (by omega), g4 47 (by omega)]; exact s2)
  obtain ⟨M7, k8, c7, u1⟩ := act_undo (X := X) c6 ha hn t1 t2
  have v6 : zA (ph M6 1) (ph M 1) := fun k hk => by
    show decide (M6 2 k ≠ -1) = decide (M 2 k ≠ -1)
    rw [e6, z_cpy_v hk, g5 _ (by omega), g4 _ (by omega), s3 k hk, f2 2 (by omega)]
  have es : pb_n (z_str (ph M6 1)) 6 = pb_n (z_str (ph M 1)) 6 := pb_n_ext fun p hp => z_str_x v6 hp
  have el : z_loose (ph M6 1) = z_loose (ph M 1) := z_loose_x v6
  have b3 := ask_cnt3 (X := X) c6.1
  rw [es] at k7
  rw [el] at b3
  have p0 := ask_pan0 (X := X) (p := 2) c7 (by omega)
  have z0 : z_str (ph M7 1) 2 = 0 := by
    unfold z_str
    rw [pb_c_none fun e he => by
      show decide (M7 2 (24 * 2 + e) ≠ -1) = false
      rw [u1 _ (by omega), t3 _ (by omega), e5, z_lay_o (by omega), e4]
      unfold z_era
      rw [if_pos (by omega)]
      rfl]
  rw [z0] at p0
  have zb3 := z_str_b (ph M3 1) 2
  have lb5 := z_loose_b (ph M5 1)
  exact ⟨M7, r191_54 a0 (r191_57 a3 (r191_61F (by omega) (by omega) (r191_64 k1 (r191_66F (by omega) (by omega) (r191_67 k2 (r191_69F (by omega) (by omega) (r191_70 k3 (r191_72F (by omega) (by omega) (r191_73 k4 (r191_76F (by omega) rfl (r191_78 k5 (r191_81F (by omega) (by omega) (r191_82 k6 (r191_86F (by omega) (by omega) (r191_87 k7 (r191_90F (by omega) rfl (r191_92 b3 (r191_95F (by omega) rfl (r191_97 k8 (r191_105F (by omega) (by omega) (r191_106 p0 (r191_110F (by decide) rfl r191_111))))))))))))))))))))))⟩
theorem ev_law (hX : X.1 < 2147483648) (h : cI M) (h19 : M 19 1 = 0) (h47 : M 47 0 = 0) (h2 : ∀ k, k < 144 → M 2 k = -1) : ∃ M', Ev X 191 0 [fx_f 56, fx_f 0, fx_u, fx_u, fx_u] [] M (some (.inl 1)) M' := by
  obtain ⟨M1, c1, k1⟩ := law_new (X := X) h h19 h47 h2
  obtain ⟨M2, c2, k2⟩ := law_forty (X := X) hX 40 0 M1 (by omega) c1
  obtain ⟨M3, k3⟩ := law_last (X := X) (M := M2) c2 (x3 := ((40 : Nat) : Int))
  exact ⟨M3, k1 _ _ (k2 _ _ k3)⟩
end LAW

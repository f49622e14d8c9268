/-! the law: an act -/
section LWA
variable {X : fx_Sc} {M M0 M' T : fx_M}
abbrev aL (c p e t s w x7 : Int) : List fx_V := [fx_f 0, .inl c, .inl p, .inl e, .inl t, .inl s, .inl w, .inl x7, fx_u, fx_u, fx_u, fx_u, fx_u, fx_u, fx_u, fx_u, fx_u, fx_u, fx_u, fx_u, fx_u, fx_u, fx_u, fx_u, fx_u, fx_u, fx_u, fx_u]
def aR (X : fx_Sc) (M : fx_M) (i : Nat) (L : List fx_V) : Prop := ∃ M', Ev X 198 i L [] M (some (.inl 1)) M' ∧ cI M'
theorem acts_join {p e t : Nat} {c s x7 : Int} (h : cI M) (hp : p < 6) (he : e < 24) (ht : t < 24) (hx : (x7 = 1 ∧ ph M 1 (24 * p + e) = true) ∨ (x7 = 0 ∧ ¬ ph M 1 (24 * p + e) = true)) : aR X M 41 (aL c (p : Int) (e : Int) (t : Int) s (z_str (ph M 1) p : Int) x7) := by
  have wb := z_str_b (ph M 1) p
  by_cases het : e = t
  · subst het
    exact ⟨M, r198_41T (by omega) rfl (r198_54 (act_joinE hp he) (r198_61F (by omega) rfl (r198_65F (by omega) rfl r198_68))), h⟩
  rcases hx with ⟨hx, hP⟩ | ⟨hx, hP⟩
  · exact ⟨M, r198_41F (by omega) (by omega) (r198_44T (by omega) (by omega) (r198_54 (act_joinN h.1 hp he ht het (Or.inl hP)) (r198_61T (by omega) (by omega) (r198_72T (by omega) rfl (r198_90F (by omega) rfl r198_93))))), h⟩
  · have a0 := ask_end0 (X := X) h.1 hp ht
    by_cases hT : ph M 1 (24 * p + t) = true
    · rw [if_pos hT] at a0
      have b0 : -1 ≤ M 2 (24 * p + t) ∧ M 2 (24 * p + t) < 24 := h.1.1.2.1 (24 * p + t) (by omega)
      have b1 : M 2 (24 * p + t) ≠ -1 := of_decide_eq_true hT
      exact ⟨M, r198_41F (by omega) (by omega) (r198_44F (by omega) hx (r198_46 a0 (r198_51T (by omega) (by omega) (r198_54 (act_joinN h.1 hp he ht het (Or.inr hT)) (r198_61T (by omega) (by omega) (r198_72T (by omega) rfl (r198_90F (by omega) rfl r198_93))))))), h⟩
    · rw [if_neg hT] at a0
      obtain ⟨M1, k1, c1, e2, -⟩ := act_join (X := X) h hp he ht het hP hT
      have es : z_str (ph M1 1) p = z_str (ph M 1) p + 1 := by
        show z_str (zp (M1 2)) p = z_str (zp (M 2)) p + 1
        rw [e2]
        exact str_lnk he ht het (ph_no hP) (ph_no hT)
      have a1 := ask_end0 (X := X) c1.1 hp he
      have v1 : M1 2 (24 * p + e) = (t : Int) := by
        rw [e2]
        show (if 24 * p + e = 24 * p + t then (e : Int) else if 24 * p + e = 24 * p + e then (t : Int) else M 2 (24 * p + e)) = (t : Int)
        rw [if_neg (by omega), if_pos rfl]
      rw [if_pos (show ph M1 1 (24 * p + e) = true from decide_eq_true (by show M1 2 (24 * p + e) ≠ -1; omega)), v1] at a1
      exact ⟨M1, r198_41F (by omega) (by omega) (r198_44F (by omega) hx (r198_46 a0 (r198_51F (by omega) (by omega) (r198_52 k1 (r198_61T (by omega) (by omega) (r198_72F (by omega) (by omega) (r198_74F (by omega) (by omega) (r198_79 a1 (r198_84F (by omega) rfl r198_86))))))))), c1⟩
theorem acts_rub {p e : Nat} {c t w x7 : Int} (h : cI M) (hp : p < 6) (he : e < 24) (hx : (x7 = 1 ∧ ph M 1 (24 * p + e) = true) ∨ (x7 = 0 ∧ ¬ ph M 1 (24 * p + e) = true)) : aR X M 97 (aL c (p : Int) (e : Int) t ((pb_n (z_str (ph M 1)) 6 : Nat) : Int) w x7) := by
  have sb := str_b (ph M 1)
  have a0 := ask_end0 (X := X) h.1 hp he
  rcases hx with ⟨hx, hP⟩ | ⟨hx, hP⟩
  · rw [if_pos hP] at a0
    obtain ⟨o, ho, hoe, o1, o2⟩ := inv_at h.1.2 hp he (of_decide_eq_true hP)
    have o1 : M 2 (24 * p + e) = (o : Int) := o1
    have o2 : M 2 (24 * p + o) = (e : Int) := o2
    rw [o1] at a0
    obtain ⟨M1, k1, c1, e2, -⟩ := act_rub (X := X) h hp he ho o1 o2
    have ez : ∀ k, z_unl (M 2) p e o k = if k = 24 * p + o then (-1 : Int) else if k = 24 * p + e then -1 else M 2 k := fun k => rfl
    have es := str_unl (O := M 2) (p := p) he ho (Ne.symm hoe) (by omega) (by omega)
    have et := strs_upd (O := M 2) (O' := z_unl (M 2) p e o) hp (fun k hk => by rw [ez, if_neg (by omega), if_neg (by omega)])
    have a1 := ask_cnt0 (X := X) c1.1
    have a2 := ask_end0 (X := X) c1.1 hp ho
    have em : pb_n (z_str (ph M1 1)) 6 + 1 = pb_n (z_str (ph M 1)) 6 := by
      show pb_n (z_str (zp (M1 2))) 6 + 1 = pb_n (z_str (zp (M 2))) 6
      rw [e2]
      omega
    rw [if_neg (show ¬ ph M1 1 (24 * p + o) = true by
      show ¬ decide (M1 2 (24 * p + o) ≠ -1) = true
      rw [e2, ez, if_pos rfl]
      decide)] at a2
    exact ⟨M1, r198_97 a0 (r198_102 k1 (r198_107F (by omega) (by omega) (r198_110F (by omega) rfl (r198_113 a1 (r198_116F (by omega) (by omega) (r198_120 a2 (r198_125F (by omega) rfl r198_127))))))), c1⟩
  · rw [if_neg hP] at a0
    exact ⟨M, r198_97 a0 (r198_102 (act_rubN h.1 hp he hP) (r198_107T (by omega) hx (r198_131F (by omega) rfl r198_134))), h⟩
theorem sh7 {c d : Nat} (hc : c < 2147483648) (h0 : 0 < d) (hd : d < 2147483648) : fx_rem (fx_shr (c : Int) 7) (d : Int) = ((c / 2 ^ 7 % d : Nat) : Int) := by
  rw [show (7 : Int) = ((7 : Nat) : Int) from rfl, pb_shr hc (by omega)]
  have : c / 2 ^ 7 ≤ c := Nat.div_le_self _ _
  exact pb_rem (by omega) h0 hd
theorem sh12 {c d : Nat} (hc : c < 2147483648) (h0 : 0 < d) (hd : d < 2147483648) : fx_rem (fx_shr (c : Int) 12) (d : Int) = ((c / 2 ^ 12 % d : Nat) : Int) := by
  rw [show (12 : Int) = ((12 : Nat) : Int) from rfl, pb_shr hc (by omega)]
  have : c / 2 ^ 12 ≤ c := Nat.div_le_self _ _
  exact pb_rem (by omega) h0 hd
theorem sh4 {c d : Nat} (hc : c < 2147483648) (h0 : 0 < d) (hd : d < 2147483648) : fx_rem (fx_shr (c : Int) 4) (d : Int) = ((c / 2 ^ 4 % d : Nat) : Int) := by
  rw [show (4 : Int) = ((4 : Nat) : Int) from rfl, pb_shr hc (by omega)]
  have : c / 2 ^ 4 ≤ c := Nat.div_le_self _ _
  exact pb_rem (by omega) h0 hd
theorem acts_clear {p c : Nat} {e t x7 : Int} (h : cI M) (hp : p < 6) (hc : c < 2147483648) : aR X M 380 (aL (c : Int) (p : Int) e t ((pb_n (z_str (ph M 1)) 6 : Nat) : Int) (z_str (ph M 1) p : Int) x7) := by
  have sb := str_b (ph M 1)
  have wb := z_str_b (ph M 1) p
  have e7 : fx_rem (fx_shr (c : Int) 7) 4 = ((c / 2 ^ 7 % 4 : Nat) : Int) := sh7 (d := 4) hc (by omega) (by omega)
  by_cases q : 0 < ((c / 2 ^ 7 % 4 : Nat) : Int)
  · exact ⟨M, r198_380T (by rw [e7]; omega) (by rw [e7]; exact q) r198_403, h⟩
  · obtain ⟨M1, k1, c1, e2, -⟩ := act_clear (X := X) h hp
    have et := strs_upd (O := M 2) (O' := z_era (M 2) p 24) hp (fun k hk => by unfold z_era; rw [if_neg (by omega)])
    have es := str_era (O := M 2) (p := p)
    have a0 := ask_pan0 (X := X) c1.1 hp
    have a1 := ask_cnt0 (X := X) c1.1
    have e0 : z_str (ph M1 1) p = 0 := by
      show z_str (zp (M1 2)) p = 0
      rw [e2]; exact es
    have em : pb_n (z_str (ph M1 1)) 6 + z_str (ph M 1) p = pb_n (z_str (ph M 1)) 6 := by
      show pb_n (z_str (zp (M1 2))) 6 + z_str (zp (M 2)) p = pb_n (z_str (zp (M 2))) 6
      rw [e2]
      omega
    exact ⟨M1, r198_380F (by rw [e7]; omega) (by rw [e7]; omega) (r198_386 k1 (r198_389F (by omega) rfl (r198_391 a0 (r198_395F (by omega) (by omega) (r198_396 a1 (r198_399F (by omega) (by omega) r198_403)))))), c1⟩
theorem acts_takeUp {p : Nat} {c e t s x7 : Int} (h : cI M) (hp : p < 6) : aR X M 324 (aL c (p : Int) e t s (z_str (ph M 1) p : Int) x7) := by
  by_cases h0 : p = 0
  · subst h0
    exact ⟨M, r198_324F (by omega) rfl (r198_326 act_takeUpE (r198_345F (by omega) rfl (r198_348F (by omega) rfl r198_351))), h⟩
  · have hp0 : 0 < p := by omega
    have wb := z_str_b (ph M 1) p
    obtain ⟨M1, k1, c1, e2, -⟩ := act_takeUp (X := X) h hp0 hp
    have ex : (p : Int) - 1 = ((p - 1 : Nat) : Int) := by omega
    have f2 := ask_fold2 (X := X) h.1 (show p - 1 < 5 by omega)
    have p3 := ask_pan3 (X := X) h.1 hp
    have g2 := ask_fold2 (X := X) c1.1 (show p - 1 < 5 by omega)
    have p0 := ask_pan0 (X := X) c1.1 hp
    rw [← ex] at f2 g2
    have b1 : z_f0 (ph M 1) (p - 1) < 4096 := pb_s_lt _ 12
    have b2 := z_edge_lt (ph M 1) (2 * p + 1)
    have b3 : z_f0 (ph M1 1) (p - 1) < 4096 := pb_s_lt _ 12
    have b4 := pb_s_lt (z_opn (ph M 1) p) 12
    have b5 := pb_c_le (z_opn (ph M 1) p) 12
    have em : fx_and (z_f0 (ph M 1) (p - 1) : Int) (fx_xor (z_edge (ph M 1) (2 * p + 1) : Int) (-1)) = ((pb_s (z_opn (ph M 1) p) 12 : Nat) : Int) := by rw [pb_andn (by omega) (by omega), z_opn_set _ _ hp0]
    have es : z_str (ph M1 1) p = z_str (ph M 1) p + pb_c (z_opn (ph M 1) p) 12 := by
      show z_str (zp (M1 2)) p = z_str (zp (M 2)) p + pb_c (z_opn (zp (M 2)) p) 12
      rw [e2]
      exact str_tku
    have ed : z_f0 (ph M1 1) (p - 1) &&& pb_s (z_opn (ph M 1) p) 12 = 0 := by
      show z_f0 (zp (M1 2)) (p - 1) &&& pb_s (z_opn (zp (M 2)) p) 12 = 0
      rw [e2]
      exact tku_done hp0 hp
    have ea : fx_and (z_f0 (ph M1 1) (p - 1) : Int) ((pb_s (z_opn (ph M 1) p) 12 : Nat) : Int) = 0 := by rw [pb_and (by omega), ed]; rfl
    refine ⟨M1, r198_324T (by omega) (by omega) (r198_328 f2 (r198_334 p3 (r198_338 k1 ?_))), c1⟩
    rw [em]
    exact r198_345T (by omega) (by omega) (r198_355 ev_bits (r198_358F (by omega) rfl (r198_359 p0 (r198_363F (by omega) (by omega) (r198_367 g2 (r198_373F (by rw [ea]; omega) ea r198_376))))))
theorem acts_exch {p c : Nat} {e t w x7 : Int} (h : cI M) (hp : p < 6) (hc : c < 2147483648) : aR X M 271 (aL (c : Int) (p : Int) e t ((pb_n (z_str (ph M 1)) 6 : Nat) : Int) w x7) := by
  have sb := str_b (ph M 1)
  have e7 : fx_rem (fx_shr (c : Int) 7) 6 = ((c / 2 ^ 7 % 6 : Nat) : Int) := sh7 (d := 6) hc (by omega) (by omega)
  obtain ⟨q, hq⟩ : ∃ q, q = c / 2 ^ 7 % 6 := ⟨_, rfl⟩
  have hq6 : q < 6 := by rw [hq]; exact Nat.mod_lt _ (by omega)
  rw [← hq] at e7
  obtain ⟨M1, k1, f1⟩ := ask_bestX (X := X) (x1 := 1) h.1 (by omega)
  rw [if_neg (by omega)] at k1
  have c1 := cI_r h f1
  have p1 := ask_pan1 (X := X) c1.1 hq6
  rw [f1 3 (by omega)] at p1
  have hb : 0 ≤ M 3 q ∧ M 3 q < 6 := h.1.1.2.2 q hq6
  by_cases hpq : p = q
  · subst hpq
    refine ⟨M1, r198_271 k1 ?_, c1⟩
    rw [e7]
    exact r198_280 p1 (r198_285 (act_exchangeE hp) (r198_290F (by omega) rfl (r198_294F (by omega) rfl r198_297)))
  · obtain ⟨M2, k2, c2, e2, e3, -⟩ := act_exchange (X := X) c1 hp hq6 hpq
    rw [f1 2 (by omega)] at e2
    rw [f1 3 (by omega)] at e3
    have ev : z_loose (ph M2 1) = vX (M 2) p q := by
      show z_loose (zp (M2 2)) = _
      rw [e2]
      rfl
    have le := vX_le (O := M 2) hp hq6 hpq
    have bb := bx_b (V := vX (M 2)) (w := 145) (by omega) 36 (by omega)
    have vb := vX_b (M 2) p q
    have a1 := ask_cnt3 (X := X) c2.1
    have a2 := ask_pan1 (X := X) c2.1 hp
    have a3 := ask_cnt0 (X := X) c2.1
    have eh : M2 3 p = M 3 q := by
      rw [e3]
      show (if p = q then M 3 p else if p = p then M 3 q else M 3 p) = M 3 q
      rw [if_neg hpq, if_pos rfl]
    rw [eh] at a2
    have es : pb_n (z_str (ph M2 1)) 6 = pb_n (z_str (ph M 1)) 6 := by
      show pb_n (z_str (zp (M2 2))) 6 = pb_n (z_str (zp (M 2))) 6
      rw [e2]
      exact strs_swp hp hq6 hpq
    rw [ev] at k2 a1
    rw [es] at a3
    refine ⟨M2, r198_271 k1 ?_, c2⟩
    rw [e7]
    exact r198_280 p1 (r198_285 k2 (r198_290T (by omega) (by omega) (r198_301 a1 (r198_305F (by omega) rfl (r198_306F (by omega) le (r198_309 a2 (r198_313F (by omega) rfl (r198_315 a3 (r198_318F (by omega) rfl r198_320)))))))))
theorem acts_bestX {c p e t s w x7 : Int} (h : cI M) : aR X M 407 (aL c p e t s w x7) := by
  obtain ⟨M1, k1, f1⟩ := ask_bestX (X := X) (x1 := 0) h.1 (by omega)
  rw [if_pos rfl] at k1
  have c1 := cI_r h f1
  obtain ⟨M2, k2, f2⟩ := ask_bestX (X := X) (x1 := 1) c1.1 (by omega)
  rw [if_neg (by omega), f1 2 (by omega)] at k2
  have c2 := cI_r c1 f2
  obtain ⟨p', q', hpq, hq, b1, b2⟩ := (bx_all (V := vX (M 2)) (vX_b (M 2))).2
  rw [b1] at k1
  rw [b2] at k2
  have ed : fx_div ((10 * p' + q' : Nat) : Int) 10 = (p' : Int) := by
    have := pb_div (a := 10 * p' + q') (d := 10) (by omega) (by omega) (by omega)
    rw [show (10 * p' + q') / 10 = p' by omega] at this
    exact this
  have er : fx_rem ((10 * p' + q' : Nat) : Int) 10 = (q' : Int) := by
    have := pb_rem (a := 10 * p' + q') (d := 10) (by omega) (by omega) (by omega)
    rw [show (10 * p' + q') % 10 = q' by omega] at this
    exact this
  obtain ⟨M3, k3, c3, e2, -⟩ := act_exchange (X := X) c2 (show p' < 6 by omega) hq (by omega)
  rw [f2 2 (by omega), f1 2 (by omega)] at e2
  have ev : z_loose (ph M3 1) = vX (M 2) p' q' := by
    show z_loose (zp (M3 2)) = _
    rw [e2]
    rfl
  rw [ev] at k3
  have vb := vX_b (M 2) p' q'
  refine ⟨M3, r198_407 k1 (r198_410 k2 (r198_414 (by rw [ed, er]; exact k3) (r198_423F (by omega) rfl (r198_425F (by rw [ed, er]; omega) (by rw [ed, er]; omega) r198_432)))), c3⟩
theorem acts_turn {p c : Nat} {e t s x7 : Int} (h : cI M) (hp : p < 6) (hc : c < 2147483648) : aR X M 205 (aL (c : Int) (p : Int) e t s (z_str (ph M 1) p : Int) x7) := by
  have wb := z_str_b (ph M 1) p
  have e7 : fx_rem (fx_shr (c : Int) 7) 3 = ((c / 2 ^ 7 % 3 : Nat) : Int) := sh7 (d := 3) hc (by omega) (by omega)
  obtain ⟨q, hq⟩ : ∃ q : Int, q = ((c / 2 ^ 7 % 3 : Nat) : Int) := ⟨_, rfl⟩
  have hq3 : 0 ≤ q ∧ q < 3 := by
    have : c / 2 ^ 7 % 3 < 3 := Nat.mod_lt _ (by omega)
    omega
  rw [← hq] at e7
  have hz : zr (M 2) := zr_of h.1
  -- a table of the turned strip's lines
  obtain ⟨MG, -, cG, g2, g3, -⟩ := act_turn (X := X) h hp hq3
  obtain ⟨T, -, hT, -⟩ := trace_D (X := X) cG.1
  rw [g2, g3] at hT
  have hT : cL (vT (M 2) p q) (M 3) T 144 := hT
  have okT : zn (vT (M 2) p q) ≤ 72 := by
    have := (cL_ok (M := T) (H := M 3) (by have := zr_of cG.1; rw [show MG (1 + 1) = MG 2 from rfl, g2] at this; exact this) hT).1
    exact this
  obtain ⟨M1, k1, f1⟩ := ask_if0 (X := X) h.1 hp hq3
  obtain ⟨M2, k2, f2⟩ := ask_if1 (X := X) (sC_r h.1 f1) hp hq3
  rw [f1 2 (by omega)] at k2
  have f2 := frC_t f2 f1
  obtain ⟨M3, k3, f3⟩ := ask_if2 (X := X) (T := T) (sC_r h.1 f2) hp hq3 (by rw [f2 2 (by omega), f2 3 (by omega)]; exact hT)
  rw [f2 2 (by omega)] at k3
  have f3 := frC_t f3 f2
  have c3 := cI_r h f3
  have p4 := ask_pan4 (X := X) c3.1 hp
  rw [f3 2 (by omega)] at p4
  obtain ⟨M4, k4, c4, e2, e3, -⟩ := act_turn (X := X) c3 hp hq3
  rw [f3 2 (by omega)] at e2
  rw [f3 3 (by omega)] at e3
  have e2 : M4 2 = vT (M 2) p q := e2
  have ev : z_loose (ph M4 1) = z_loose (fun k => decide (vT (M 2) p q k ≠ -1)) := by
    show z_loose (zp (M4 2)) = _
    rw [e2]
    rfl
  have a3 := ask_cnt3 (X := X) c4.1
  rw [ev] at k4 a3
  obtain ⟨M5, a1, f5⟩ := ask_cnt1 (X := X) c4.1
  rw [e2] at a1
  obtain ⟨M6, a2, f6⟩ := ask_cnt2 (X := X) (T := T) (sC_r c4.1 f5) (by rw [f5 2 (by omega), f5 3 (by omega), e2, e3]; exact hT)
  rw [f5 2 (by omega), e2] at a2
  have f6 := frC_t f6 f5
  have c6 := cI_r c4 f6
  have q4 := ask_pan4 (X := X) c6.1 hp
  rw [f6 2 (by omega), e2, prs_tn hz (by rw [← e2]; exact c4.1.2) hp hq3] at q4
  have q0 := ask_pan0 (X := X) c6.1 hp
  have es : z_str (ph M6 1) p = z_str (ph M 1) p := by
    show z_str (zp (M6 2)) p = z_str (zp (M 2)) p
    rw [f6 2 (by omega), e2]
    exact str_lay hz.1 hz.2 hp tn_hn (fun t ht _ _ _ => z_tn_inv (by omega))
  rw [es] at q0
  have lb := z_loose_b (fun k => decide (vT (M 2) p q k ≠ -1))
  have pb := z_prs_b (M 2) p
  have l2 : l_lp (T 16) (zn (vT (M 2) p q)) ≤ zn (vT (M 2) p q) := pb_c_le _ _
  refine ⟨M6, r198_205 (by rw [e7]; exact k1) ?_, c6⟩
  rw [e7]
  exact r198_216 k2 (r198_222 k3 (r198_228 p4 (r198_233 k4 (r198_238F (by omega) rfl (r198_240 a3 (r198_243F (by omega) rfl (r198_245 a1 (r198_248F (by omega) rfl (r198_250 a2 (r198_253F (by omega) rfl (r198_255 q4 (r198_259F (by omega) rfl (r198_261 q0 (r198_265F (by omega) rfl r198_267))))))))))))))
end LWA

/-! a change: what it leaves -/
def chg (M M' : fx_M) (O' H' : Nat → Int) : Prop := cI M' ∧ M' 2 = O' ∧ M' 3 = H' ∧ (∀ r, 44 < r → M' r = M r) ∧ ∃ a n : Nat, a < 6 ∧ n < 6 ∧ M' 19 1 = ((n + 1 : Nat) : Int) ∧ M' 19 2 = (((a + 1) % 6 : Nat) : Int) ∧ (∀ k, k < 144 → M' (21 + 4 * a + 1) k = M 2 k)
theorem z_cpy_v {f g : Nat → Int} {n k : Nat} (h : k < n) : z_cpy f g n k = f k := by
  unfold z_cpy
  rw [if_pos h]
section CHG
variable {X : fx_Sc} {M M' : fx_M}
theorem chg_D (h : cI M) : ∃ n a : Nat, a < 6 ∧ Ev X 38 0 [fx_f 19, fx_f 1, fx_u] [] M none (y_rm M n a) ∧ ∀ (MC : fx_M) (O' H' : Nat → Int), (∀ r, 4 < r → MC r = y_rm M n a r) → MC 2 = O' → MC 3 = H' → (∀ k, k < 144 → -1 ≤ O' k ∧ O' k < 24) → (∀ p, p < 6 → 0 ≤ H' p ∧ H' p < 6) → z_inv O' → chg M MC O' H' := by
  obtain ⟨hs, ⟨⟨n, a, hn, ha, h1, h2⟩, hS⟩, hk⟩ := h
  refine ⟨n, a, ha, ev_remember hs.1 hn ha h1 h2, fun MC O' H' hC e2 e3 g1 g2 g3 => ?_⟩
  have v1 : MC 19 1 = ((min 6 (n + 1) : Nat) : Int) := by rw [hC 19 (by omega)]; exact y_rm_19.1
  have v2 : MC 19 2 = (((a + 1) % 6 : Nat) : Int) := by rw [hC 19 (by omega)]; exact y_rm_19.2
  have w1 : ∀ k, k < 144 → MC (21 + 4 * a + 1) k = M 2 k := fun k hk => by rw [hC _ (by omega), y_rm_1, z_cpy_v hk]
  have w2 : ∀ p, p < 6 → MC (21 + 4 * a + 2) p = M 3 p := fun p hp => by rw [hC _ (by omega), y_rm_2, z_cpy_v hp]
  have ho : ∀ r, 44 < r → MC r = M r := fun r hr => by rw [hC r (by omega), y_rm_o ha (by omega)]
  refine ⟨⟨⟨⟨isS1, ?_, ?_⟩, ?_⟩, ⟨⟨min 6 (n + 1), (a + 1) % 6, by omega, by omega, v1, v2⟩, fun i hi => ?_⟩, kC_f hk fun q _ _ => ho q (by omega)⟩, e2, e3, ho, a, min 5 n, ha, by omega, ?_, v2, w1⟩
  · intro k hk
    show -1 ≤ MC 2 k ∧ MC 2 k < 24
    rw [e2]; exact g1 k hk
  · intro k hk
    show 0 ≤ MC 3 k ∧ MC 3 k < 6
    rw [e3]; exact g2 k hk
  · show z_inv (MC 2)
    rw [e2]; exact g3
  · by_cases hia : i = a
    · subst hia
      exact sC_mv hs (isS_st i hi) w1 w2
    · exact sC_f (hS i hi) (by rw [hC _ (by omega), y_rm_n (by omega) (by omega) (by omega)]) (by rw [hC _ (by omega), y_rm_n (by omega) (by omega) (by omega)])
  · rw [v1]
    congr 1
    omega
theorem act_joinE {p e : Nat} (hp : p < 6) (he : e < 24) : Ev X 8 0 [fx_f 0, .inl (p : Int), .inl (e : Int), .inl (e : Int)] [] M (some (.inl (-2))) M :=
  r8_0 (ev_isPanel_y (by omega)) (r8_2F (by omega) (by omega) (r8_3 (ev_isEnd_y (by omega)) (r8_5F (by omega) (by omega) (r8_6 (ev_isEnd_y (by omega)) (r8_8T (by omega) (by omega) (r8_11F (by omega) rfl r8_14))))))
theorem join_c {p e o : Nat} (h : sC M 1) (hp : p < 6) (he : e < 24) (ho : o < 24) (heo : e ≠ o) {z : Int} (k : Ev X 8 22 [fx_f 0, .inl (p : Int), .inl (e : Int), .inl (o : Int)] [.inl (if ph M 1 (24 * p + e) = true then 1 else 0)] M (some (.inl z)) M') : Ev X 8 0 [fx_f 0, .inl (p : Int), .inl (e : Int), .inl (o : Int)] [] M (some (.inl z)) M' :=
  r8_0 (ev_isPanel_y (by omega)) (r8_2F (by omega) (by omega) (r8_3 (ev_isEnd_y (by omega)) (r8_5F (by omega) (by omega) (r8_6 (ev_isEnd_y (by omega)) (r8_8T (by omega) (by omega) (r8_11T (by omega) (by omega) (r8_16 ev_placeOf (r8_21 (ev_hasN h.1 (by omega)) k))))))))
theorem act_joinN {p e o : Nat} (h : sC M 1) (hp : p < 6) (he : e < 24) (ho : o < 24) (heo : e ≠ o) (hb : ph M 1 (24 * p + e) = true ∨ ph M 1 (24 * p + o) = true) : Ev X 8 0 [fx_f 0, .inl (p : Int), .inl (e : Int), .inl (o : Int)] [] M (some (.inl (-5))) M := by
  refine join_c h hp he ho heo ?_
  by_cases ha : ph M 1 (24 * p + e) = true
  · rw [if_pos ha]
    exact r8_22T (by omega) (by omega) r8_30
  · rw [if_neg ha]
    have hc := ev_hasN (X := X) h.1 (show 24 * p + o < 144 by omega)
    rw [if_pos (by rcases hb with hb | hb; exact absurd hb ha; exact hb)] at hc
    exact r8_22F (by omega) rfl (r8_23 ev_placeOf (r8_28 hc (r8_29F (by omega) (by omega) r8_30)))
theorem ph_no {k : Nat} (h : ¬ ph M 1 k = true) : M 2 k = -1 := by
  apply Classical.byContradiction
  intro q
  exact h (decide_eq_true q)
theorem act_join {p e o : Nat} (h : cI M) (hp : p < 6) (he : e < 24) (ho : o < 24) (heo : e ≠ o) (h1 : ¬ ph M 1 (24 * p + e) = true) (h2 : ¬ ph M 1 (24 * p + o) = true) : ∃ M', Ev X 8 0 [fx_f 0, .inl (p : Int), .inl (e : Int), .inl (o : Int)] [] M (some (.inl (z_str (ph M' 1) p : Int))) M' ∧ chg M M' (z_lnk (M 2) p e o) (M 3) := by
  obtain ⟨n, a, ha6, rem, fin⟩ := chg_D (X := X) h
  have S1 := h.1.1
  have f1 := fin (fx_set (y_rm M n a) 2 (z_lnk (M 2) p e o)) (z_lnk (M 2) p e o) (M 3) (fun r hr => fx_sn (by omega)) fx_sk (by rw [fx_sn (by omega), y_rm_o ha6 (by omega)]) (z_lnk_rg (p := p) S1.2.1 he ho) S1.2.2 (z_inv_lnk h.1.2 he ho heo (ph_no h1) (ph_no h2))
  refine ⟨_, join_c h.1 hp he ho heo ?_, f1⟩
  rw [if_neg h1]
  have hc := ev_hasN (X := X) S1 (show 24 * p + o < 144 by omega)
  rw [if_neg h2] at hc
  refine r8_22F (by omega) rfl (r8_23 ev_placeOf (r8_28 hc (r8_29T (by omega) rfl (r8_32 rem (r8_37 (Ev.mem ?_ (ev_link isS1 hp he ho)) (r8_43 (ev_strokesIn f1.1.1.1 hp) r8_47))))))
  show fx_set (y_rm M n a) 2 (z_lnk (y_rm M n a 2) p e o) = _
  rw [y_rm_o ha6 (by omega)]
theorem rub_c {p e : Nat} (h : sC M 1) (hp : p < 6) (he : e < 24) {z : Int} (k : Ev X 9 14 [fx_f 0, .inl (p : Int), .inl (e : Int), fx_u] [.inl (M 2 (24 * p + e))] M (some (.inl z)) M') : Ev X 9 0 [fx_f 0, .inl (p : Int), .inl (e : Int), fx_u] [] M (some (.inl z)) M' :=
  r9_0 (ev_isPanel_y (by omega)) (r9_2F (by omega) (by omega) (r9_3 (ev_isEnd_y (by omega)) (r9_5T (by omega) (by omega) (r9_8 ev_placeOf (r9_13 (ev_otherEnd h.1 (by omega)) k)))))
theorem act_rubN {p e : Nat} (h : sC M 1) (hp : p < 6) (he : e < 24) (h1 : ¬ ph M 1 (24 * p + e) = true) : Ev X 9 0 [fx_f 0, .inl (p : Int), .inl (e : Int), fx_u] [] M (some (.inl (-5))) M := by
  have hn := ph_no h1
  exact rub_c h hp he (r9_14F (by rw [hn]; omega) hn r9_18)
theorem act_rub {p e o : Nat} (h : cI M) (hp : p < 6) (he : e < 24) (ho : o < 24) (o1 : M 2 (24 * p + e) = (o : Int)) (o2 : M 2 (24 * p + o) = (e : Int)) : ∃ M', Ev X 9 0 [fx_f 0, .inl (p : Int), .inl (e : Int), fx_u] [] M (some (.inl (o : Int))) M' ∧ chg M M' (z_unl (M 2) p e o) (M 3) := by
  obtain ⟨n, a, ha6, rem, fin⟩ := chg_D (X := X) h
  have S1 := h.1.1
  have f1 := fin (fx_set (y_rm M n a) 2 (z_unl (M 2) p e o)) (z_unl (M 2) p e o) (M 3) (fun r hr => fx_sn (by omega)) fx_sk (by rw [fx_sn (by omega), y_rm_o ha6 (by omega)]) (fun k hk => by
      show -1 ≤ (if k = 24 * p + o then (-1 : Int) else if k = 24 * p + e then (-1 : Int) else M 2 k) ∧ (if k = 24 * p + o then (-1 : Int) else if k = 24 * p + e then (-1 : Int) else M 2 k) < 24
      have : -1 ≤ M 2 k ∧ M 2 k < 24 := S1.2.1 k hk
      split
      · omega
      · split <;> omega) S1.2.2 (z_inv_unl h.1.2 he ho o1 o2)
  refine ⟨_, rub_c h.1 hp he ?_, f1⟩
  rw [o1]
  refine r9_14T (by omega) (by omega) (r9_20 rem (r9_25 (Ev.mem ?_ (ev_unlink isS1 hp he ho)) r9_31))
  show fx_set (y_rm M n a) 2 (z_unl (y_rm M n a 2) p e o) = _
  rw [y_rm_o ha6 (by omega)]
theorem act_clear {p : Nat} (h : cI M) (hp : p < 6) : ∃ M', Ev X 10 0 [fx_f 0, .inl (p : Int), fx_u] [] M (some (.inl (z_str (ph M 1) p : Int))) M' ∧ chg M M' (z_era (M 2) p 24) (M 3) := by
  obtain ⟨n, a, ha6, rem, fin⟩ := chg_D (X := X) h
  have S1 := h.1.1
  have f1 := fin (fx_set (y_rm M n a) 2 (z_era (M 2) p 24)) (z_era (M 2) p 24) (M 3) (fun r hr => fx_sn (by omega)) fx_sk (by rw [fx_sn (by omega), y_rm_o ha6 (by omega)]) (z_era_rg S1.2.1) S1.2.2 (z_inv_era h.1.2)
  refine ⟨_, r10_0 (ev_isPanel_y (by omega)) (r10_2T (by omega) (by omega) (r10_5 (ev_strokesIn S1 hp) (r10_9 rem (r10_15 (Ev.mem ?_ (ev_erase isS1 hp)) r10_19)))), f1⟩
  show fx_set (y_rm M n a) 2 (z_era (y_rm M n a 2) p 24) = _
  rw [y_rm_o ha6 (by omega)]
theorem act_exchangeE {p : Nat} (hp : p < 6) : Ev X 14 0 [fx_f 0, .inl (p : Int), .inl (p : Int)] [] M (some (.inl (-5))) M :=
  r14_0 (ev_isPanel_y (by omega)) (r14_2F (by omega) (by omega) (r14_3 (ev_isPanel_y (by omega)) (r14_5T (by omega) (by omega) (r14_8F (by omega) rfl r14_11))))
theorem z_sw6_rg {H : Nat → Int} {p q : Nat} (hp : p < 6) (hq : q < 6) (b3 : ∀ i, i < 6 → 0 ≤ H i ∧ H i < 6) : ∀ i, i < 6 → 0 ≤ z_sw6 H p q i ∧ z_sw6 H p q i < 6 := by
  intro i hi
  show 0 ≤ (if i = q then H p else if i = p then H q else H i) ∧ (if i = q then H p else if i = p then H q else H i) < 6
  split
  · exact b3 p hp
  · split
    · exact b3 q hq
    · exact b3 i hi
theorem act_exchange {p q : Nat} (h : cI M) (hp : p < 6) (hq : q < 6) (hpq : p ≠ q) : ∃ M', Ev X 14 0 [fx_f 0, .inl (p : Int), .inl (q : Int)] [] M (some (.inl (z_loose (ph M' 1) : Int))) M' ∧ chg M M' (z_swp (M 2) p q 24) (z_sw6 (M 3) p q) := by
  obtain ⟨n, a, ha6, rem, fin⟩ := chg_D (X := X) h
  have S1 := h.1.1
  have f1 := fin (fx_set (fx_set (y_rm M n a) 2 (z_swp (M 2) p q 24)) 3 (z_sw6 (M 3) p q)) (z_swp (M 2) p q 24) (z_sw6 (M 3) p q) (fun r hr => by rw [fx_sn (by omega), fx_sn (by omega)]) (by rw [fx_sn (by omega), fx_sk]) fx_sk (z_swp_rg hp hq S1.2.1) (z_sw6_rg hp hq S1.2.2) (z_inv_swp h.1.2 hp hq hpq)
  have SR : pS (y_rm M n a) 1 := pS_f S1 (y_rm_o ha6 (by omega)) (y_rm_o ha6 (by omega))
  refine ⟨_, r14_0 (ev_isPanel_y (by omega)) (r14_2F (by omega) (by omega) (r14_3 (ev_isPanel_y (by omega)) (r14_5T (by omega) (by omega) (r14_8T (by omega) (by omega) (r14_13 rem (r14_18 (Ev.mem ?_ (ev_swap SR hp hq hpq)) (r14_23 (ev_looseEnds f1.1.1.1) r14_26))))))), f1⟩
  show fx_set (fx_set (y_rm M n a) 2 (z_swp (y_rm M n a 2) p q 24)) 3 (z_sw6 (y_rm M n a 3) p q) = _
  rw [y_rm_o ha6 (by omega), y_rm_o ha6 (by omega)]
theorem act_takeUpE : Ev X 15 0 [fx_f 0, .inl 0] [] M (some (.inl (-1))) M := r15_0 (ev_isPanel_y (by omega)) (r15_2F (by omega) (by omega) (r15_3F (by omega) rfl r15_5))
theorem act_takeUp {p : Nat} (h : cI M) (hp0 : 0 < p) (hp : p < 6) : ∃ M', Ev X 15 0 [fx_f 0, .inl (p : Int)] [] M (some (.inl ((pb_c (z_opn (ph M 1) p) 12 : Nat) : Int))) M' ∧ chg M M' (z_tku (M 2) (ph M 1) p 12) (M 3) := by
  obtain ⟨n, a, ha6, rem, fin⟩ := chg_D (X := X) h
  have S1 := h.1.1
  have f1 := fin (fx_set (y_rm M n a) 2 (z_tku (M 2) (ph M 1) p 12)) (z_tku (M 2) (ph M 1) p 12) (M 3) (fun r hr => fx_sn (by omega)) fx_sk (by rw [fx_sn (by omega), y_rm_o ha6 (by omega)]) (z_tku_rg S1.2.1) S1.2.2 (z_inv_tku h.1.2 hp (fun k hk => by
      show decide (M 2 k ≠ -1) = false ↔ M 2 k = -1
      rw [decide_eq_false_iff_not, Classical.not_not]))
  have SR : pS (y_rm M n a) 1 := pS_f S1 (y_rm_o ha6 (by omega)) (y_rm_o ha6 (by omega))
  have er2 : y_rm M n a 2 = M 2 := y_rm_o ha6 (by omega)
  have ep : ph (y_rm M n a) 1 = ph M 1 := by unfold ph; rw [show y_rm M n a (1 + 1) = M (1 + 1) from er2]
  have tk := ev_takeUpS (X := X) SR hp0 hp
  rw [ep, show y_rm M n a (1 + 1) = M 2 from er2] at tk
  rw [show (1 : Nat) + 1 = 2 from rfl] at tk
  exact ⟨_, r15_0 (ev_isPanel_y (by omega)) (r15_2F (by omega) (by omega) (r15_3T (by omega) (by omega) (r15_7 rem (r15_12 tk r15_16)))), f1⟩
theorem chg_lay {n a p : Nat} {mu nu : Int → Int} (h : cI M) (ha : a < 6) (hp : p < 6)
    (fin : ∀ (MC : fx_M) (O' H' : Nat → Int), (∀ r, 4 < r → MC r = y_rm M n a r) → MC 2 = O' → MC 3 = H' → (∀ k, k < 144 → -1 ≤ O' k ∧ O' k < 24) → (∀ p, p < 6 → 0 ≤ H' p ∧ H' p < 6) → z_inv O' → chg M MC O' H')
    (hn : ∀ e : Nat, e < 24 → M 2 (24 * p + e) ≠ -1 → nu (mu e) = e ∧ 0 ≤ mu e ∧ mu e < 24) (hm : ∀ t : Nat, t < 24 → 0 ≤ nu t → nu t < 24 → M 2 (24 * p + (nu t).toNat) ≠ -1 → mu (nu t) = t) :
    chg M (z_lM (y_rm M n a) 1 mu nu p 24) (z_lay mu nu (M 2) p 24) (M 3) := by
  have S1 := h.1.1
  have r2 : y_rm M n a (1 + 1) = M 2 := y_rm_o ha (by omega)
  refine fin _ _ _ (fun r hr => by unfold z_lM; rw [fx_sn (by omega), fx_sn (by omega)]) ?_ (by unfold z_lM; rw [fx_sn (by omega), fx_sn (by omega), y_rm_o ha (by omega)]) (z_lay_rg S1.2.1 h.1.2 hp hn) S1.2.2 (z_inv_lay S1.2.1 h.1.2 hp hn hm)
  unfold z_lM
  rw [show (2 : Nat) = 1 + 1 from rfl, fx_sk, r2]
theorem sh_hn {P : Nat → Bool} {O : Nat → Int} {p : Nat} {x : Int} (hc : z_can P p x = true) (hP : ∀ k, k < 144 → O k ≠ -1 → P k = true) (hp : p < 6) : ∀ e : Nat, e < 24 → O (24 * p + e) ≠ -1 → (fun t => t - x) ((fun e => e + x) (e : Int)) = e ∧ 0 ≤ (fun e => e + x) (e : Int) ∧ (fun e => e + x) (e : Int) < 24 := by
  intro e he hne
  have := z_can_end hc he (hP _ (by omega) hne)
  show (e : Int) + x - x = e ∧ 0 ≤ (e : Int) + x ∧ (e : Int) + x < 24
  by_cases q : e < 12
  · have := this.1 q; omega
  · have := this.2 (by omega); omega
theorem slide_c {p : Nat} {x : Int} (h : sC M 1) (hp : p < 6) (hx : -12 < x ∧ x < 12) (hx0 : x ≠ 0) {z : Int} (k : Ev X 11 20 [fx_f 0, .inl (p : Int), .inl x] [.inl (if z_can (ph M 1) p x = true then 1 else 0)] M (some (.inl z)) M') : Ev X 11 0 [fx_f 0, .inl (p : Int), .inl x] [] M (some (.inl z)) M' :=
  r11_0 (ev_isPanel_y (by omega)) (r11_2T (by omega) (by omega) (r11_5F (by omega) (by omega) (r11_8F (by omega) (by omega) (r11_11T (by omega) hx0 (r11_15 (ev_canShift h.1 hp hx) k)))))
theorem act_slideN {p : Nat} {x : Int} (h : sC M 1) (hp : p < 6) (hx : -12 < x ∧ x < 12) (hx0 : x ≠ 0) (hc : ¬ z_can (ph M 1) p x = true) : Ev X 11 0 [fx_f 0, .inl (p : Int), .inl x] [] M (some (.inl (-5))) M := by
  refine slide_c h hp hx hx0 ?_
  rw [if_neg hc]
  exact r11_20F (by omega) rfl r11_21
theorem act_slide {p : Nat} {x : Int} (h : cI M) (hp : p < 6) (hx : -12 < x ∧ x < 12) (hx0 : x ≠ 0) (hc : z_can (ph M 1) p x = true) : ∃ M', Ev X 11 0 [fx_f 0, .inl (p : Int), .inl x] [] M (some (.inl (z_loose (ph M' 1) : Int))) M' ∧ chg M M' (z_lay (fun e => e + x) (fun t => t - x) (M 2) p 24) (M 3) := by
  obtain ⟨n, a, ha6, rem, fin⟩ := chg_D (X := X) h
  have S1 := h.1.1
  have f1 := chg_lay (mu := fun e => e + x) (nu := fun t => t - x) h ha6 hp fin (sh_hn hc (fun k _ q => decide_eq_true q) hp) (fun t _ _ _ _ => by show (t : Int) - x + x = t; omega)
  have SR : pS (y_rm M n a) 1 := pS_f S1 (y_rm_o ha6 (by omega)) (y_rm_o ha6 (by omega))
  have er2 : y_rm M n a (1 + 1) = M 2 := y_rm_o ha6 (by omega)
  have ep : ph (y_rm M n a) 1 = ph M 1 := by unfold ph; rw [er2]
  have sh := ev_shift (X := X) SR (by rw [er2]; exact h.1.2) hp hx (by rw [ep]; exact hc)
  refine ⟨_, slide_c h.1 hp hx hx0 ?_, f1⟩
  rw [if_pos hc]
  exact r11_20T (by omega) (by omega) (r11_23 rem (r11_28 sh (r11_33 (ev_looseEnds f1.1.1.1) r11_36)))
theorem tn_hn {O : Nat → Int} {p : Nat} {x : Int} : ∀ e : Nat, e < 24 → O (24 * p + e) ≠ -1 → z_tn x (z_tn x (e : Int)) = e ∧ 0 ≤ z_tn x (e : Int) ∧ z_tn x (e : Int) < 24 := fun e he _ => ⟨z_tn_inv (by omega), z_tn_rg (by omega)⟩
theorem act_turn {p : Nat} {x : Int} (h : cI M) (hp : p < 6) (hx : 0 ≤ x ∧ x < 3) : ∃ M', Ev X 12 0 [fx_f 0, .inl (p : Int), .inl x] [] M (some (.inl (z_loose (ph M' 1) : Int))) M' ∧ chg M M' (z_lay (z_tn x) (z_tn x) (M 2) p 24) (M 3) := by
  obtain ⟨n, a, ha6, rem, fin⟩ := chg_D (X := X) h
  have S1 := h.1.1
  have f1 := chg_lay (mu := z_tn x) (nu := z_tn x) h ha6 hp fin tn_hn (fun t ht _ _ _ => z_tn_inv (by omega))
  have SR : pS (y_rm M n a) 1 := pS_f S1 (y_rm_o ha6 (by omega)) (y_rm_o ha6 (by omega))
  have er2 : y_rm M n a (1 + 1) = M 2 := y_rm_o ha6 (by omega)
  have fl := ev_flip (X := X) (h := x) SR (by rw [er2]; exact h.1.2) hp hx
  exact ⟨_, r12_0 (ev_isPanel_y (by omega)) (r12_2T (by omega) (by omega) (r12_5 (ev_isTurn_y hx) (r12_7T (by omega) (by omega) (r12_10 rem (r12_15 fl (r12_20 (ev_looseEnds f1.1.1.1) r12_23)))))), f1⟩
end CHG

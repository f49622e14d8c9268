/-! the law: slides; all acts -/
section LWB
variable {X : fx_Sc} {M M0 M' T : fx_M}
theorem vS_is (O : Nat → Int) (p : Nat) (x : Int) : z_loose (zp (z_lay (fun e => e + x) (fun t => t - x) O p 24)) = vS O p x := rfl
/-- from the slide's number and the least on -/
theorem acts_slid {p c : Nat} {e t s x7 x12 : Int} (h : cI M0) (f : frC M M0) (hp : p < 6) (hc : c < 2147483648) (hx : -12 < x12 ∧ x12 < 12) (h0 : c / 2 ^ 7 % 3 = 0 → (x12 = 0 ∧ (bs (z_can (ph M0 1) p) (vS (M0 2) p) (z_loose (ph M0 1)) 22).2 = (z_loose (ph M0 1) : Int)) ∨ (x12 ≠ 0 ∧ z_can (ph M0 1) p x12 = true ∧ (bs (z_can (ph M0 1) p) (vS (M0 2) p) (z_loose (ph M0 1)) 22).2 = (vS (M0 2) p x12 : Int))) :
    ∃ M', Ev X 198 163 [fx_f 0, .inl (c : Int), .inl (p : Int), .inl e, .inl t, .inl s, .inl (z_str (ph M0 1) p : Int), .inl x7, fx_u, fx_u, fx_u, fx_u, .inl x12, fx_u, fx_u, fx_u, fx_u, fx_u, fx_u, fx_u, fx_u, fx_u, fx_u, fx_u, fx_u, fx_u, fx_u, fx_u] [.inl (bs (z_can (ph M0 1) p) (vS (M0 2) p) (z_loose (ph M0 1)) 22).2] M (some (.inl 1)) M' ∧ cI M' := by
  have wb := z_str_b (ph M0 1) p
  have lb := z_loose_b (ph M0 1)
  have cM := cI_r h f
  have e2 : M 2 = M0 2 := f 2 (by omega)
  have ep : ph M 1 = ph M0 1 := ph_fr f
  have e7 : fx_rem (fx_shr (c : Int) 7) 3 = ((c / 2 ^ 7 % 3 : Nat) : Int) := sh7 (d := 3) hc (by omega) (by omega)
  obtain ⟨q, hq⟩ : ∃ q, q = c / 2 ^ 7 % 3 := ⟨_, rfl⟩
  rw [← hq] at e7 h0
  have hq3 : q < 3 := by rw [hq]; exact Nat.mod_lt _ (by omega)
  obtain ⟨B, hB⟩ : ∃ B, B = (bs (z_can (ph M0 1) p) (vS (M0 2) p) (z_loose (ph M0 1)) 22).2 := ⟨_, rfl⟩
  have bb := (bs_b (Q := z_can (ph M0 1) p) (V := vS (M0 2) p) lb 22 (by omega)).1
  have ble := bs_le (Q := z_can (ph M0 1) p) (V := vS (M0 2) p) (w := z_loose (ph M0 1)) 22
  rw [← hB] at bb ble h0 ⊢
  -- the end: own strokes as before
  have fin : ∀ (M1 : fx_M) (x14 : Int), cI M1 → pR x14 → z_str (ph M1 1) p = z_str (ph M0 1) p → (q = 0 → x14 = B) → Ev X 198 186 [fx_f 0, .inl (c : Int), .inl (p : Int), .inl e, .inl t, .inl s, .inl (z_str (ph M0 1) p : Int), .inl x7, fx_u, fx_u, fx_u, fx_u, .inl x12, .inl B, .inl x14, fx_u, fx_u, fx_u, fx_u, fx_u, fx_u, fx_u, fx_u, fx_u, fx_u, fx_u, fx_u, fx_u] [] M1 (some (.inl 1)) M1 := by
    intro M1 x14 c1 hr es hb
    have p0 := ask_pan0 (X := X) c1.1 hp
    rw [es] at p0
    have last : Ev X 198 195 [fx_f 0, .inl (c : Int), .inl (p : Int), .inl e, .inl t, .inl s, .inl (z_str (ph M0 1) p : Int), .inl x7, fx_u, fx_u, fx_u, fx_u, .inl x12, .inl B, .inl x14, fx_u, fx_u, fx_u, fx_u, fx_u, fx_u, fx_u, fx_u, fx_u, fx_u, fx_u, fx_u, fx_u] [] M1 (some (.inl 1)) M1 := r198_195 p0 (r198_199F (by omega) rfl r198_201)
    by_cases q0 : q = 0
    · exact r198_186F (by rw [e7]; omega) (by rw [e7]; omega) (r198_192F (by omega) (hb q0) last)
    · exact r198_186T (by rw [e7]; omega) (by rw [e7]; omega) last
  by_cases hx0 : x12 = 0
  · have a3 := ask_cnt3 (X := X) cM.1
    rw [ep] at a3
    have le := ble.1
    exact ⟨M, r198_163F (by omega) hx0 (r198_166 a3 (r198_169F (by omega) (by omega) (r198_178 a3 (r198_182F (by omega) rfl (r198_183F (by omega) le (fin M _ cM (by constructor <;> omega) (by rw [ep]) (fun q0 => by
      rcases h0 q0 with ⟨-, h1⟩ | ⟨h1, -⟩
      · exact h1.symm
      · exact absurd hx0 h1))))))), cM⟩
  · by_cases hcan : z_can (ph M0 1) p x12 = true
    · obtain ⟨M1, k1, c1, g2, g3, -⟩ := act_slide (X := X) cM hp hx hx0 (by rw [ep]; exact hcan)
      rw [e2] at g2
      have ev : z_loose (ph M1 1) = vS (M0 2) p x12 := by
        show z_loose (zp (M1 2)) = _
        rw [g2]
        exact vS_is _ _ _
      have a3 := ask_cnt3 (X := X) c1.1
      rw [ev] at k1 a3
      have vb : vS (M0 2) p x12 ≤ 60 := z_loose_b _
      have le : B ≤ (vS (M0 2) p x12 : Int) := by
        obtain ⟨k, hk, ek⟩ := cS_of hx hx0
        have := ble.2 k hk (by rw [ek]; exact hcan)
        rwa [ek] at this
      have es : z_str (ph M1 1) p = z_str (ph M0 1) p := by
        show z_str (zp (M1 2)) p = z_str (zp (M0 2)) p
        rw [g2]
        exact str_lay h.1.1.2.1 h.1.2 hp (sh_hn hcan (fun k _ z => decide_eq_true z) hp) (fun t _ _ _ _ => by show (t : Int) - x12 + x12 = t; omega)
      exact ⟨M1, r198_163T (by omega) hx0 (r198_170 k1 (r198_174F (by omega) (by omega) (r198_178 a3 (r198_182F (by omega) rfl (r198_183F (by omega) le (fin M1 _ c1 (by constructor <;> omega) es (fun q0 => by
        rcases h0 q0 with ⟨h1, -⟩ | ⟨-, -, h1⟩
        · exact absurd h1 hx0
        · exact h1.symm))))))), c1⟩
    · exact ⟨M, r198_163T (by omega) hx0 (r198_170 (act_slideN cM.1 hp hx hx0 (by rw [ep]; exact hcan)) (r198_174T (by omega) rfl (fin M _ cM (by decide) (by rw [ep]) (fun q0 => by
        rcases h0 q0 with ⟨h1, -⟩ | ⟨-, h1, -⟩
        · exact absurd h1 hx0
        · exact absurd h1 hcan)))), cM⟩
theorem acts_slide {p c : Nat} {e t s x7 : Int} (h : cI M) (hp : p < 6) (hc : c < 2147483648) : aR X M 138 (aL (c : Int) (p : Int) e t s (z_str (ph M 1) p : Int) x7) := by
  have e7 : fx_rem (fx_shr (c : Int) 7) 3 = ((c / 2 ^ 7 % 3 : Nat) : Int) := sh7 (d := 3) hc (by omega) (by omega)
  have e12 : fx_rem (fx_shr (c : Int) 12) 23 = ((c / 2 ^ 12 % 23 : Nat) : Int) := sh12 (d := 23) hc (by omega) (by omega)
  have m3 : c / 2 ^ 7 % 3 < 3 := Nat.mod_lt _ (by omega)
  have m23 : c / 2 ^ 12 % 23 < 23 := Nat.mod_lt _ (by omega)
  by_cases q : c / 2 ^ 7 % 3 = 0
  · obtain ⟨M1, k1, f1⟩ := ask_bestS (X := X) (x2 := 0) h.1 hp (by omega)
    rw [if_pos rfl] at k1
    obtain ⟨M2, k2, f2⟩ := ask_bestS (X := X) (x2 := 1) (sC_r h.1 f1) hp (by omega)
    rw [if_neg (by omega), f1 2 (by omega), show ph M1 1 = ph M 1 from ph_fr f1] at k2
    have f2 := frC_t f2 f1
    have is := bs_is (Q := z_can (ph M 1) p) (V := vS (M 2) p) (w := z_loose (ph M 1)) 22 (by omega)
    have hx : -12 < (bs (z_can (ph M 1) p) (vS (M 2) p) (z_loose (ph M 1)) 22).1 ∧ (bs (z_can (ph M 1) p) (vS (M 2) p) (z_loose (ph M 1)) 22).1 < 12 := by
      rcases is with ⟨h1, -⟩ | ⟨k, h1, h2, h3, h4⟩
      · omega
      · have := cS_b h1
        omega
    obtain ⟨M3, k3, c3⟩ := acts_slid (X := X) (e := e) (t := t) (s := s) (x7 := x7) (x12 := (bs (z_can (ph M 1) p) (vS (M 2) p) (z_loose (ph M 1)) 22).1) h f2 hp hc hx (fun _ => by
      rcases is with h1 | ⟨k, h1, h2, h3, h4⟩
      · exact Or.inl h1
      · exact Or.inr ⟨by rw [h3]; exact cS_0 k, by rw [h3]; exact h2, by rw [h3]; exact h4⟩)
    refine ⟨M3, r198_138F (by rw [e7]; omega) (by rw [e7]; omega) (r198_144 k1 (r198_148 k2 ?_)), c3⟩
    rw [show 20 + (bs (z_can (ph M 1) p) (vS (M 2) p) (z_loose (ph M 1)) 22).1 - 20 = (bs (z_can (ph M 1) p) (vS (M 2) p) (z_loose (ph M 1)) 22).1 by omega]
    exact k3
  · obtain ⟨M1, k1, f1⟩ := ask_bestS (X := X) (x2 := 1) h.1 hp (by omega)
    rw [if_neg (by omega)] at k1
    obtain ⟨M3, k3, c3⟩ := acts_slid (X := X) (e := e) (t := t) (s := s) (x7 := x7) (x12 := fx_rem (fx_shr (c : Int) 12) 23 - 11) h f1 hp hc (by rw [e12]; omega) (fun z => absurd z q)
    exact ⟨M3, r198_138T (by rw [e7]; omega) (by rw [e7]; omega) (r198_151 k1 k3), c3⟩
theorem law_acts {c : Nat} (h : cI M) (hc : c < 2147483648) : ∃ M', Ev X 198 0 [fx_f 0, .inl (c : Int), fx_u, fx_u, fx_u, fx_u, fx_u, fx_u, fx_u, fx_u, fx_u, fx_u, fx_u, fx_u, fx_u, fx_u, fx_u, fx_u, fx_u, fx_u, fx_u, fx_u, fx_u, fx_u, fx_u, fx_u, fx_u, fx_u] [] M (some (.inl 1)) M' ∧ cI M' := by
  have e4 : fx_rem (fx_shr (c : Int) 4) 6 = ((c / 2 ^ 4 % 6 : Nat) : Int) := sh4 (d := 6) hc (by omega) (by omega)
  have e7 : fx_rem (fx_shr (c : Int) 7) 24 = ((c / 2 ^ 7 % 24 : Nat) : Int) := sh7 (d := 24) hc (by omega) (by omega)
  have e12 : fx_rem (fx_shr (c : Int) 12) 24 = ((c / 2 ^ 12 % 24 : Nat) : Int) := sh12 (d := 24) hc (by omega) (by omega)
  have e11 : fx_rem (c : Int) 11 = ((c % 11 : Nat) : Int) := pb_rem (d := 11) hc (by omega) (by omega)
  obtain ⟨p, hpe⟩ : ∃ p, p = c / 2 ^ 4 % 6 := ⟨_, rfl⟩
  obtain ⟨e, hee⟩ : ∃ e, e = c / 2 ^ 7 % 24 := ⟨_, rfl⟩
  obtain ⟨t, hte⟩ : ∃ t, t = c / 2 ^ 12 % 24 := ⟨_, rfl⟩
  obtain ⟨m, hme⟩ : ∃ m, m = c % 11 := ⟨_, rfl⟩
  have hp : p < 6 := by rw [hpe]; exact Nat.mod_lt _ (by omega)
  have he : e < 24 := by rw [hee]; exact Nat.mod_lt _ (by omega)
  have ht : t < 24 := by rw [hte]; exact Nat.mod_lt _ (by omega)
  have hm : m < 11 := by rw [hme]; exact Nat.mod_lt _ (by omega)
  rw [← hpe] at e4
  rw [← hee] at e7
  rw [← hte] at e12
  rw [← hme] at e11
  have a0 := ask_cnt0 (X := X) h.1
  have a1 := ask_pan0 (X := X) h.1 hp
  have a2 := ask_end0 (X := X) h.1 hp he
  have b2 : -1 ≤ M 2 (24 * p + e) ∧ M 2 (24 * p + e) < 24 := h.1.1.2.1 (24 * p + e) (by omega)
  -- each act, whatever the end has
  have each : ∀ x7 : Int, (x7 = 1 ∧ ph M 1 (24 * p + e) = true) ∨ (x7 = 0 ∧ ¬ ph M 1 (24 * p + e) = true) → ∃ i, aR X M i (aL (c : Int) (p : Int) (e : Int) (t : Int) ((pb_n (z_str (ph M 1)) 6 : Nat) : Int) (z_str (ph M 1) p : Int) x7) ∧ ((m < 4 ∧ i = 41) ∨ (m = 4 ∧ i = 97) ∨ (m = 5 ∧ i = 138) ∨ (m = 6 ∧ i = 205) ∨ (m = 7 ∧ i = 271) ∨ (m = 8 ∧ i = 324) ∨ (m = 9 ∧ i = 380) ∨ (m = 10 ∧ i = 407)) := by
    intro x7 hx
    by_cases h4 : m < 4
    · exact ⟨41, acts_join h hp he ht hx, by omega⟩
    by_cases m4 : m = 4
    · exact ⟨97, acts_rub h hp he hx, by omega⟩
    by_cases m5 : m = 5
    · exact ⟨138, acts_slide h hp hc, by omega⟩
    by_cases m6 : m = 6
    · exact ⟨205, acts_turn h hp hc, by omega⟩
    by_cases m7 : m = 7
    · exact ⟨271, acts_exch h hp hc, by omega⟩
    by_cases m8 : m = 8
    · exact ⟨324, acts_takeUp h hp, by omega⟩
    by_cases m9 : m = 9
    · exact ⟨380, acts_clear h hp hc, by omega⟩
    · exact ⟨407, acts_bestX h, by omega⟩
  have pre : ∀ z M', Ev X 198 32 [fx_f 0, .inl (c : Int), .inl (p : Int), .inl (e : Int), .inl (t : Int), .inl ((pb_n (z_str (ph M 1)) 6 : Nat) : Int), .inl (z_str (ph M 1) p : Int), fx_u, fx_u, fx_u, fx_u, fx_u, fx_u, fx_u, fx_u, fx_u, fx_u, fx_u, fx_u, fx_u, fx_u, fx_u, fx_u, fx_u, fx_u, fx_u, fx_u, fx_u] [.inl (if ph M 1 (24 * p + e) = true then M 2 (24 * p + e) else -6)] M (some (.inl z)) M' → Ev X 198 0 [fx_f 0, .inl (c : Int), fx_u, fx_u, fx_u, fx_u, fx_u, fx_u, fx_u, fx_u, fx_u, fx_u, fx_u, fx_u, fx_u, fx_u, fx_u, fx_u, fx_u, fx_u, fx_u, fx_u, fx_u, fx_u, fx_u, fx_u, fx_u, fx_u] [] M (some (.inl z)) M' := by
    intro z M' k
    refine r198_0 a0 ?_
    rw [e4, e7, e12]
    exact r198_21 a1 (r198_26 a2 k)
  by_cases hP : ph M 1 (24 * p + e) = true
  · rw [if_pos hP] at pre
    have b3 : M 2 (24 * p + e) ≠ -1 := of_decide_eq_true hP
    obtain ⟨i, ⟨M', k, c'⟩, hi⟩ := each 1 (Or.inl ⟨rfl, hP⟩)
    refine ⟨M', pre _ _ (r198_32F (by omega) (by omega) ?_), c'⟩
    rcases hi with ⟨h1, rfl⟩ | ⟨h1, rfl⟩ | ⟨h1, rfl⟩ | ⟨h1, rfl⟩ | ⟨h1, rfl⟩ | ⟨h1, rfl⟩ | ⟨h1, rfl⟩ | ⟨h1, rfl⟩
    · by_cases m0 : m = 0
      · exact r198_33c0 (by rw [e11]; omega) k
      by_cases m1 : m = 1
      · exact r198_33c1 (by rw [e11]; omega) k
      by_cases m2 : m = 2
      · exact r198_33c2 (by rw [e11]; omega) k
      · exact r198_33c3 (by rw [e11]; omega) k
    · exact r198_33c4 (by rw [e11]; omega) k
    · exact r198_33c5 (by rw [e11]; omega) k
    · exact r198_33c6 (by rw [e11]; omega) k
    · exact r198_33c7 (by rw [e11]; omega) k
    · exact r198_33c8 (by rw [e11]; omega) k
    · exact r198_33c9 (by rw [e11]; omega) k
    · exact r198_33D (by rw [e11]; omega) (by rw [e11]; omega) k
  · rw [if_neg hP] at pre
    obtain ⟨i, ⟨M', k, c'⟩, hi⟩ := each 0 (Or.inr ⟨rfl, hP⟩)
    refine ⟨M', pre _ _ (r198_32T (by omega) (by omega) ?_), c'⟩
    rcases hi with ⟨h1, rfl⟩ | ⟨h1, rfl⟩ | ⟨h1, rfl⟩ | ⟨h1, rfl⟩ | ⟨h1, rfl⟩ | ⟨h1, rfl⟩ | ⟨h1, rfl⟩ | ⟨h1, rfl⟩
    · by_cases m0 : m = 0
      · exact r198_35c0 (by rw [e11]; omega) k
      by_cases m1 : m = 1
      · exact r198_35c1 (by rw [e11]; omega) k
      by_cases m2 : m = 2
      · exact r198_35c2 (by rw [e11]; omega) k
      · exact r198_35c3 (by rw [e11]; omega) k
    · exact r198_35c4 (by rw [e11]; omega) k
    · exact r198_35c5 (by rw [e11]; omega) k
    · exact r198_35c6 (by rw [e11]; omega) k
    · exact r198_35c7 (by rw [e11]; omega) k
    · exact r198_35c8 (by rw [e11]; omega) k
    · exact r198_35c9 (by rw [e11]; omega) k
    · exact r198_35D (by rw [e11]; omega) (by rw [e11]; omega) k
end LWB

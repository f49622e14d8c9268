/-! the law: lines -/
section LWL
variable {X : fx_Sc} {M M0 M' T : fx_M}
theorem aC1 (h : sC M0 1) (f : frC M M0) : ∃ M1, Ev X 24 0 [fx_f 0, .inl 1] [] M (some (.inl (zn (M0 2) : Int))) M1 ∧ frC M1 M0 := by
  obtain ⟨M1, h1, h2⟩ := ask_cnt1 (X := X) (sC_r h f)
  rw [f 2 (by omega)] at h1
  exact ⟨M1, h1, frC_t h2 f⟩
theorem hT_fr (f : frC M M0) (hT : cL (M0 2) (M0 3) T 144) : cL (M 2) (M 3) T 144 := by
  rw [f 2 (by omega), f 3 (by omega)]
  exact hT
theorem aC2 (h : sC M0 1) (f : frC M M0) (hT : cL (M0 2) (M0 3) T 144) : ∃ M1, Ev X 24 0 [fx_f 0, .inl 2] [] M (some (.inl (l_lp (T 16) (zn (M0 2)) : Int))) M1 ∧ frC M1 M0 := by
  obtain ⟨M1, h1, h2⟩ := ask_cnt2 (X := X) (sC_r h f) (hT_fr f hT)
  rw [f 2 (by omega)] at h1
  exact ⟨M1, h1, frC_t h2 f⟩
theorem aC7 (h : sC M0 1) (f : frC M M0) (hT : cL (M0 2) (M0 3) T 144) : ∃ M1, Ev X 24 0 [fx_f 0, .inl 7] [] M (some (.inl (l_mx (T 11) (zn (M0 2))))) M1 ∧ frC M1 M0 := by
  obtain ⟨M1, h1, h2⟩ := ask_cnt7 (X := X) (sC_r h f) (hT_fr f hT)
  rw [f 2 (by omega)] at h1
  exact ⟨M1, h1, frC_t h2 f⟩
theorem aC8 (h : sC M0 1) (f : frC M M0) (hT : cL (M0 2) (M0 3) T 144) : ∃ M1, Ev X 24 0 [fx_f 0, .inl 8] [] M (some (.inl (l_tb (T 16) (T 14) (T 15) (zn (M0 2)) : Int))) M1 ∧ frC M1 M0 := by
  obtain ⟨M1, h1, h2⟩ := ask_cnt8 (X := X) (sC_r h f) (hT_fr f hT)
  rw [f 2 (by omega)] at h1
  exact ⟨M1, h1, frC_t h2 f⟩
theorem lt_fr {i : Nat} (f : frC M M0) (hi : i < zn (M0 2)) : i < zn (M 2) := by rw [f 2 (by omega)]; exact hi
theorem aL0 {i : Nat} (h : sC M0 1) (f : frC M M0) (hT : cL (M0 2) (M0 3) T 144) (hi : i < zn (M0 2)) : ∃ M1, Ev X 23 0 [fx_f 0, .inl (i : Int), .inl 0] [] M (some (.inl (T 11 i))) M1 ∧ frC M1 M0 := by
  obtain ⟨M1, h1, h2⟩ := ask_line0 (X := X) (sC_r h f) (hT_fr f hT) (lt_fr f hi)
  exact ⟨M1, h1, frC_t h2 f⟩
theorem aL1 {i : Nat} (h : sC M0 1) (f : frC M M0) (hT : cL (M0 2) (M0 3) T 144) (hi : i < zn (M0 2)) : ∃ M1, Ev X 23 0 [fx_f 0, .inl (i : Int), .inl 1] [] M (some (.inl (T 16 i))) M1 ∧ frC M1 M0 := by
  obtain ⟨M1, h1, h2⟩ := ask_line1 (X := X) (sC_r h f) (hT_fr f hT) (lt_fr f hi)
  exact ⟨M1, h1, frC_t h2 f⟩
theorem aL2 {i : Nat} (h : sC M0 1) (f : frC M M0) (hT : cL (M0 2) (M0 3) T 144) (hi : i < zn (M0 2)) : ∃ M1, Ev X 23 0 [fx_f 0, .inl (i : Int), .inl 2] [] M (some (.inl (T 12 i))) M1 ∧ frC M1 M0 := by
  obtain ⟨M1, h1, h2⟩ := ask_line2 (X := X) (sC_r h f) (hT_fr f hT) (lt_fr f hi)
  exact ⟨M1, h1, frC_t h2 f⟩
theorem aL3 {i : Nat} (h : sC M0 1) (f : frC M M0) (hT : cL (M0 2) (M0 3) T 144) (hi : i < zn (M0 2)) : ∃ M1, Ev X 23 0 [fx_f 0, .inl (i : Int), .inl 3] [] M (some (.inl (T 13 i))) M1 ∧ frC M1 M0 := by
  obtain ⟨M1, h1, h2⟩ := ask_line3 (X := X) (sC_r h f) (hT_fr f hT) (lt_fr f hi)
  exact ⟨M1, h1, frC_t h2 f⟩
theorem aL4 {i : Nat} (h : sC M0 1) (f : frC M M0) (hT : cL (M0 2) (M0 3) T 144) (hi : i < zn (M0 2)) : ∃ M1, Ev X 23 0 [fx_f 0, .inl (i : Int), .inl 4] [] M (some (.inl (T 14 i))) M1 ∧ frC M1 M0 := by
  obtain ⟨M1, h1, h2⟩ := ask_line4 (X := X) (sC_r h f) (hT_fr f hT) (lt_fr f hi)
  exact ⟨M1, h1, frC_t h2 f⟩
theorem aL5 {i : Nat} (h : sC M0 1) (f : frC M M0) (hT : cL (M0 2) (M0 3) T 144) (hi : i < zn (M0 2)) : ∃ M1, Ev X 23 0 [fx_f 0, .inl (i : Int), .inl 5] [] M (some (.inl (T 15 i))) M1 ∧ frC M1 M0 := by
  obtain ⟨M1, h1, h2⟩ := ask_line5 (X := X) (sC_r h f) (hT_fr f hT) (lt_fr f hi)
  exact ⟨M1, h1, frC_t h2 f⟩
abbrev lL (x1 x2 x3 x4 : Int) (x6 : Int) (v7 v8 v9 v10 v11 v12 : fx_V) : List fx_V := [fx_f 0, .inl x1, .inl x2, .inl x3, .inl x4, .inl 1, .inl x6, v7, v8, v9, v10, v11, v12]
/-- a line's ends -/
theorem lines_mid {x1 x2 x3 x4 : Int} {i : Nat} {v11 v12 : fx_V} (h : sC M0 1) (f : frC M M0) (hT : cL (M0 2) (M0 3) T 144) (hi : i < zn (M0 2)) :
    ∃ M1, frC M1 M0 ∧ ∀ r M', Ev X 197 163 (lL x1 x2 x3 (x4 + if T 16 i = 0 ∧ T 14 i < 12 ∧ 132 ≤ T 15 i then 1 else 0) (i : Int) (.inl (T 11 i)) (.inl (T 14 i)) (.inl (T 15 i)) (.inl (if T 16 i = 1 then 1 else 0)) (.inl 0) (.inl ((0 : Nat) : Int))) [] M1 r M' → Ev X 197 82 (lL x1 x2 x3 x4 (i : Int) (.inl (T 11 i)) (.inl (T 14 i)) (.inl (T 15 i)) (.inl (if T 16 i = 1 then 1 else 0)) v11 v12) [] M r M' := by
  have hz : zr (M0 2) := zr_of h
  have hm := ln_many hz hT hi
  by_cases hl : T 16 i = 1
  · obtain ⟨l1, l2, l3⟩ := ln_loop hz hT hi hl
    rw [if_pos hl, if_neg (by omega)]
    exact ⟨M, f, fun r M' k => r197_82F (by omega) (by omega) (r197_84F (by omega) l1 (r197_87F (by omega) l2 (r197_90F (by omega) l3 (r197_93T (by omega) (by omega) (r197_156 k)))))⟩
  · obtain ⟨u, v, e1, e2, e3, huv, hu, hv, pu, pv, tu, tv, wu, wv⟩ := ln_ends hz hT hi hl
    rw [if_neg hl, e1, e2]
    have du : fx_div (u : Int) 24 = ((u / 24 : Nat) : Int) := pb_div (d := 24) (by omega) (by omega) (by omega)
    have ru : fx_rem (u : Int) 24 = ((u % 24 : Nat) : Int) := pb_rem (d := 24) (by omega) (by omega) (by omega)
    have dv : fx_div (v : Int) 24 = ((v / 24 : Nat) : Int) := pb_div (d := 24) (by omega) (by omega) (by omega)
    have rv : fx_rem (v : Int) 24 = ((v % 24 : Nat) : Int) := pb_rem (d := 24) (by omega) (by omega) (by omega)
    have qu : 24 * (u / 24) + u % 24 = u := by omega
    have qv : 24 * (v / 24) + v % 24 = v := by omega
    have b72 : zn (M0 2) ≤ 72 := (cL_ok hz hT).1
    obtain ⟨M1, a1, f1⟩ := aE2 (X := X) (T := T) (p := u / 24) (e := u % 24) h f hT (by omega) (by omega) (by rw [qu]; exact pu)
    obtain ⟨M2, a2, f2⟩ := aE2 (X := X) (T := T) (p := v / 24) (e := v % 24) h f1 hT (by omega) (by omega) (by rw [qv]; exact pv)
    have a3 := aE1 (X := X) (p := u / 24) (e := u % 24) h f2 (by omega) (by omega)
    have a4 := aE1 (X := X) (p := v / 24) (e := v % 24) h f2 (by omega) (by omega)
    rw [qu] at a1 a3
    rw [qv] at a2 a4
    rw [← du, ← ru] at a1 a3
    rw [← dv, ← rv] at a2 a4
    have gu := z_how_rg (zp (M0 2)) u
    have gv := z_how_rg (zp (M0 2)) v
    have pre : ∀ r M', Ev X 197 148 (lL x1 x2 x3 x4 (i : Int) (.inl (T 11 i)) (.inl (u : Int)) (.inl (v : Int)) (.inl 0) v11 v12) [.inl x4] M2 r M' → Ev X 197 82 (lL x1 x2 x3 x4 (i : Int) (.inl (T 11 i)) (.inl (u : Int)) (.inl (v : Int)) (.inl 0) v11 v12) [] M r M' := fun r M' k =>
      r197_82T (by omega) rfl (r197_94F (by omega) (by omega) (r197_97 a1 (r197_106F (by omega) tu (r197_108 a2 (r197_117F (by omega) tv (r197_119 a3 (r197_128F (by omega) wu (r197_130 a4 (r197_139F (by omega) wv (r197_141F (by omega) rfl k))))))))))
    refine ⟨M2, f2, fun r M' k => pre r M' ?_⟩
    by_cases c1 : 12 ≤ (u : Int)
    · rw [if_neg (by omega)] at k
      exact r197_148T (by omega) c1 (r197_156 k)
    · by_cases c2 : (v : Int) < 132
      · rw [if_neg (by omega)] at k
        exact r197_148F (by omega) (by omega) (r197_151T (by omega) c2 (r197_156 k))
      · rw [if_pos ⟨e3, by omega, by omega⟩] at k
        exact r197_148F (by omega) (by omega) (r197_151F (by omega) (by omega) (r197_154 k))
/-- a line's hands -/
theorem lines_hands {x1 x2 x3 x4 : Int} {i t : Nat} {v7 v8 v9 v10 : Int} (h : sC M0 1) (hT : cL (M0 2) (M0 3) T 144) (hi : i < zn (M0 2)) (ht : t < 64) (et : T 12 i = (t : Int)) : ∀ (n d : Nat) (M : fx_M), d + n = 6 → frC M M0 →
    ∃ M1, frC M1 M0 ∧ ∀ r M', Ev X 197 163 (lL x1 x2 x3 x4 (i : Int) (.inl v7) (.inl v8) (.inl v9) (.inl v10) (.inl (y_ho (M0 3) t : Int)) (.inl ((6 : Nat) : Int))) [] M1 r M' → Ev X 197 163 (lL x1 x2 x3 x4 (i : Int) (.inl v7) (.inl v8) (.inl v9) (.inl v10) (.inl ((pb_o (fun p => if t.testBit p = true then 2 ^ (M0 3 p).toNat else 0) d : Nat) : Int)) (.inl (d : Int))) [] M r M' := by
  intro n
  induction n with
  | zero =>
    intro d M hd f
    have : d = 6 := by omega
    subst this
    exact ⟨M, f, fun r M' k => k⟩
  | succ n ih =>
    intro d M hd f
    have hd6 : d < 6 := by omega
    obtain ⟨M1, a1, f1⟩ := aL2 (X := X) h f hT hi
    obtain ⟨M2, f2, k2⟩ := ih (d + 1) M1 (by omega) f1
    rw [et] at a1
    have hb : ∀ p, p < 6 → 0 ≤ M0 3 p ∧ M0 3 p < 6 := h.1.2.2
    have bit : fx_and (fx_shr (t : Int) (d : Int)) 1 = if t.testBit d = true then 1 else 0 := pb_bit (by omega) (by omega)
    have ol : pb_o (fun p => if t.testBit p = true then 2 ^ (M0 3 p).toNat else 0) d < 2 ^ 6 := pb_o_lt fun p hp => by
      split
      · exact Nat.pow_lt_pow_right (by omega) (by have := hb p (by omega); omega)
      · exact Nat.two_pow_pos 6
    refine ⟨M2, f2, fun r M' k => ?_⟩
    have k3 := k2 r M' k
    simp only [pb_o] at k3
    refine r197_163F (by omega) (by omega) (r197_166 a1 ?_)
    by_cases q : t.testBit d = true
    · rw [if_pos q] at bit k3
      have p1 := ask_pan1 (X := X) (sC_r h f1) hd6
      rw [f1 3 (by omega)] at p1
      have bd := hb d hd6
      refine r197_171F (by rw [bit]; omega) bit (r197_177 p1 (r197_182 ?_))
      have pw : 2 ^ (M0 3 d).toNat < 2 ^ 6 := Nat.pow_lt_pow_right (by omega) (by omega)
      have e1 : fx_shl 1 (M0 3 d) = ((2 ^ (M0 3 d).toNat : Nat) : Int) := by
        have := pb_shl1 (M0 3 d).toNat (by omega)
        rwa [show (((M0 3 d).toNat : Nat) : Int) = M0 3 d by omega] at this
      rw [e1, pb_or (by omega) (by omega)]
      exact k3
    · rw [if_neg q] at bit k3
      refine r197_171T (by rw [bit]; omega) (by rw [bit]; omega) (r197_184 ?_)
      have e1 : fx_or ((pb_o (fun p => if t.testBit p = true then 2 ^ (M0 3 p).toNat else 0) d : Nat) : Int) 0 = ((pb_o (fun p => if t.testBit p = true then 2 ^ (M0 3 p).toNat else 0) d ||| 0 : Nat) : Int) := pb_or (b := 0) (by omega) (by omega)
      rw [e1]
      exact k3
theorem lines_one {i : Nat} (h : sC M0 1) (f : frC M M0) (hT : cL (M0 2) (M0 3) T 144) (hi : i < zn (M0 2)) (v7 v8 v9 v10 v11 v12 : fx_V) : ∃ (M1 : fx_M) (w7 w8 w9 w10 w11 w12 : fx_V), frC M1 M0 ∧
    ∀ r M', Ev X 197 28 (lL (pb_m (T 11) (i + 1)) ((l_lp (T 16) (i + 1) : Nat) : Int) (l_mx (T 11) (i + 1)) ((l_tb (T 16) (T 14) (T 15) (i + 1) : Nat) : Int) ((i + 1 : Nat) : Int) w7 w8 w9 w10 w11 w12) [] M1 r M' →
      Ev X 197 28 (lL (pb_m (T 11) i) ((l_lp (T 16) i : Nat) : Int) (l_mx (T 11) i) ((l_tb (T 16) (T 14) (T 15) i : Nat) : Int) (i : Int) v7 v8 v9 v10 v11 v12) [] M r M' := by
  have hz : zr (M0 2) := zr_of h
  have ok := cL_ok hz hT
  have b72 : zn (M0 2) ≤ 72 := ok.1
  have hm := ln_many hz hT hi
  have hb := ok.2 i hi
  have mb := l_mx_b (a := T 11) (n := i) (fun j hj => (ok.2 j (by have : i < (zN (M0 2) 144).length := hi; omega)).1)
  obtain ⟨t, ht, et, eh⟩ := ln_hands (H := M0 3) hz h.1.2.2 hT hi
  obtain ⟨M1, a1, f1⟩ := aC1 (X := X) h f
  obtain ⟨M2, a2, f2⟩ := aL0 (X := X) h f1 hT hi
  obtain ⟨M3, a3, f3⟩ := aL4 (X := X) h f2 hT hi
  obtain ⟨M4, a4, f4⟩ := aL5 (X := X) h f3 hT hi
  obtain ⟨M5, a5, f5⟩ := aL1 (X := X) h f4 hT hi
  obtain ⟨M6, f6, k6⟩ := lines_mid (X := X) (x1 := pb_m (T 11) (i + 1)) (x2 := ((l_lp (T 16) (i + 1) : Nat) : Int)) (x3 := l_mx (T 11) (i + 1)) (x4 := ((l_tb (T 16) (T 14) (T 15) i : Nat) : Int)) (v11 := v11) (v12 := v12) h f5 hT hi
  obtain ⟨M7, f7, k7⟩ := lines_hands (X := X) (x1 := pb_m (T 11) (i + 1)) (x2 := ((l_lp (T 16) (i + 1) : Nat) : Int)) (x3 := l_mx (T 11) (i + 1)) (x4 := ((l_tb (T 16) (T 14) (T 15) (i + 1) : Nat) : Int)) (v7 := T 11 i) (v8 := T 14 i) (v9 := T 15 i) (v10 := if T 16 i = 1 then 1 else 0) h hT hi ht et 6 0 M6 (by omega) f6
  obtain ⟨M8, a8, f8⟩ := aL3 (X := X) h f7 hT hi
  rw [eh] at a8
  have hob : y_ho (M0 3) t < 64 := pb_o_lt (b := 6) fun p hp => by
    split
    · exact Nat.pow_lt_pow_right (by omega) (by have := h.1.2.2 p hp; have q : 0 ≤ M0 3 p ∧ M0 3 p < 6 := this; omega)
    · exact Nat.two_pow_pos 6
  have etb : ((l_tb (T 16) (T 14) (T 15) i : Nat) : Int) + (if T 16 i = 0 ∧ T 14 i < 12 ∧ 132 ≤ T 15 i then 1 else 0) = ((l_tb (T 16) (T 14) (T 15) (i + 1) : Nat) : Int) := by
    unfold l_tb
    rw [pb_c]
    by_cases q : T 16 i = 0 ∧ T 14 i < 12 ∧ 132 ≤ T 15 i
    · rw [if_pos q, if_pos (decide_eq_true q)]; push_cast; rfl
    · rw [if_neg q, if_neg (by rw [decide_eq_true_iff]; exact q)]; push_cast; rfl
  rw [etb] at k6
  -- from the row of 54 on
  have mid : ∀ r M', Ev X 197 82 (lL (pb_m (T 11) (i + 1)) ((l_lp (T 16) (i + 1) : Nat) : Int) (l_mx (T 11) (i + 1)) ((l_tb (T 16) (T 14) (T 15) i : Nat) : Int) (i : Int) (.inl (T 11 i)) (.inl (T 14 i)) (.inl (T 15 i)) (.inl (if T 16 i = 1 then 1 else 0)) v11 v12) [] M5 r M' → Ev X 197 54 (lL (pb_m (T 11) i) ((l_lp (T 16) i : Nat) : Int) (l_mx (T 11) i) ((l_tb (T 16) (T 14) (T 15) i : Nat) : Int) (i : Int) (.inl (T 11 i)) (.inl (T 14 i)) (.inl (T 15 i)) v10 v11 v12) [.inl (T 16 i)] M5 r M' := by
    intro r M' k
    have el : ((l_lp (T 16) (i + 1) : Nat) : Int) = ((l_lp (T 16) i : Nat) : Int) + (if T 16 i = 1 then 1 else 0) := by
      unfold l_lp
      rw [pb_c]
      by_cases q : T 16 i = 1
      · rw [if_pos q, if_pos (decide_eq_true (by omega))]; push_cast; rfl
      · rw [if_neg q, if_neg (by rw [decide_eq_true_iff]; omega)]; push_cast; rfl
    rw [el] at k
    by_cases q : T 16 i = 1
    · rw [if_pos q] at k
      refine r197_54F (by omega) q ?_
      by_cases c : T 11 i ≤ l_mx (T 11) i
      · rw [show l_mx (T 11) (i + 1) = l_mx (T 11) i by rw [l_mx, if_neg (by omega)]] at k
        exact r197_56T (by omega) c (r197_77F (by omega) (by omega) k)
      · rw [show l_mx (T 11) (i + 1) = T 11 i by rw [l_mx, if_pos (by omega)]] at k
        exact r197_56F (by omega) (by omega) (r197_75F (by omega) (by omega) k)
    · rw [if_neg q] at k
      refine r197_54T (by omega) q ?_
      by_cases c : T 11 i ≤ l_mx (T 11) i
      · rw [show l_mx (T 11) (i + 1) = l_mx (T 11) i by rw [l_mx, if_neg (by omega)]] at k
        exact r197_58T (by omega) c (r197_77F (by omega) (by omega) k)
      · rw [show l_mx (T 11) (i + 1) = T 11 i by rw [l_mx, if_pos (by omega)]] at k
        exact r197_58F (by omega) (by omega) (r197_75F (by omega) (by omega) k)
  exact ⟨M8, .inl (T 11 i), .inl (T 14 i), .inl (T 15 i), .inl (if T 16 i = 1 then 1 else 0), .inl (y_ho (M0 3) t : Int), .inl ((6 : Nat) : Int), f8, fun r M' k => r197_28 a1 (r197_32F (by omega) (by omega) (r197_33F (by omega) (by omega) (r197_35 a2 (r197_39 a3 (r197_44 a4 (r197_49 a5 (mid r M' (k6 r M' (k7 r M' (r197_163T (by omega) (by omega) (r197_189F (by omega) (by omega) (r197_191 a8 (r197_196F (by omega) rfl (r197_197 k))))))))))))))⟩
theorem law_lines (h : sC M 1) : ∃ M', Ev X 197 0 [fx_f 0, fx_u, fx_u, fx_u, fx_u, fx_u, fx_u, fx_u, fx_u, fx_u, fx_u, fx_u, fx_u] [] M (some (.inl 1)) M' ∧ frC M' M := by
  obtain ⟨T, -, hT, -⟩ := trace_D (X := X) h
  have hz : zr (M 2) := zr_of h
  have b72 : zn (M 2) ≤ 72 := (cL_ok hz hT).1
  have key : ∀ (n i : Nat) (M1 : fx_M) (v7 v8 v9 v10 v11 v12 : fx_V), i + n = zn (M 2) → frC M1 M → ∃ M', Ev X 197 28 (lL (pb_m (T 11) i) ((l_lp (T 16) i : Nat) : Int) (l_mx (T 11) i) ((l_tb (T 16) (T 14) (T 15) i : Nat) : Int) (i : Int) v7 v8 v9 v10 v11 v12) [] M1 (some (.inl 1)) M' ∧ frC M' M := by
    intro n
    induction n with
    | zero =>
      intro i M1 v7 v8 v9 v10 v11 v12 hi f
      have : i = zn (M 2) := by omega
      subst this
      obtain ⟨M2, a2, f2⟩ := aC1 (X := X) h f
      have c0 := ask_cnt0 (X := X) (sC_r h f2)
      rw [ph_fr f2] at c0
      obtain ⟨M3, a3, f3⟩ := aC2 (X := X) h f2 hT
      obtain ⟨M4, a4, f4⟩ := aC7 (X := X) h f3 hT
      obtain ⟨M5, a5, f5⟩ := aC8 (X := X) h f4 hT
      have es : pb_m (T 11) (zn (M 2)) = ((pb_n (z_str (zp (M 2))) 6 : Nat) : Int) := ln_sum hz hT
      have b0 := str_b (zp (M 2))
      have b1 : l_lp (T 16) (zn (M 2)) ≤ zn (M 2) := pb_c_le _ _
      have b2 := l_mx_b (a := T 11) (n := zn (M 2)) (fun j hj => ((cL_ok hz hT).2 j hj).1)
      have b3 : l_tb (T 16) (T 14) (T 15) (zn (M 2)) ≤ zn (M 2) := pb_c_le _ _
      rw [es]
      exact ⟨M5, r197_28 a2 (r197_32T (by omega) (by omega) (r197_203F (by omega) (by omega) (r197_205 c0 (r197_209F (by omega) rfl (r197_210 a3 (r197_214F (by omega) rfl (r197_215 a4 (r197_219F (by omega) rfl (r197_220 a5 (r197_224F (by omega) rfl r197_225)))))))))), f5⟩
    | succ n ih =>
      intro i M1 v7 v8 v9 v10 v11 v12 hi f
      obtain ⟨M2, w7, w8, w9, w10, w11, w12, f2, k⟩ := lines_one (X := X) h f hT (show i < zn (M 2) by omega) v7 v8 v9 v10 v11 v12
      obtain ⟨M', k2, f3⟩ := ih (i + 1) M2 w7 w8 w9 w10 w11 w12 (by omega) f2
      exact ⟨M', k _ _ k2, f3⟩
  obtain ⟨M1, a1, f1⟩ := aC1 (X := X) h (frC_r M)
  obtain ⟨M2, a2, f2⟩ := ask_lineN (X := X) (x1 := (zn (M 2) : Int)) (x2 := 0) (sC_r h f1) (by constructor <;> omega) (Or.inr (by rw [f1 2 (by omega)]; omega))
  have f2 := frC_t f2 f1
  obtain ⟨M3, a3, f3⟩ := ask_lineN (X := X) (x1 := -1) (x2 := 0) (sC_r h f2) (by decide) (Or.inl (by decide))
  have f3 := frC_t f3 f2
  obtain ⟨M', k, f⟩ := key (zn (M 2)) 0 M3 fx_u fx_u fx_u fx_u fx_u fx_u (by omega) f3
  exact ⟨M', r197_0 a1 (r197_12 a2 (r197_14F (by omega) rfl (r197_16 a3 (r197_20F (by omega) rfl (r197_22 k))))), f⟩
end LWL

/-! the law: ends -/
section LWE
variable {X : fx_Sc} {M M0 M' T : fx_M}
theorem ph_fr (f : frC M M0) : ph M 1 = zp (M0 2) := by
  unfold ph zp
  rw [f (1 + 1) (by omega)]
theorem aE0 {p e : Nat} (h : sC M0 1) (f : frC M M0) (hp : p < 6) (he : e < 24) : Ev X 16 0 [fx_f 0, .inl (p : Int), .inl (e : Int), .inl 0, fx_u] [] M (some (.inl (if zp (M0 2) (24 * p + e) = true then M0 2 (24 * p + e) else -6))) M := by
  have a := ask_end0 (X := X) (sC_r h f) hp he
  rw [ph_fr f, f 2 (by omega)] at a
  exact a
theorem aE1 {p e : Nat} (h : sC M0 1) (f : frC M M0) (hp : p < 6) (he : e < 24) : Ev X 16 0 [fx_f 0, .inl (p : Int), .inl (e : Int), .inl 1, fx_u] [] M (some (.inl (z_how (zp (M0 2)) (24 * p + e)))) M := by
  have a := ask_end1 (X := X) (sC_r h f) hp he
  rw [ph_fr f] at a
  exact a
theorem aEO {p e : Nat} {x3 : Int} (h : sC M0 1) (f : frC M M0) (hp : p < 6) (he : e < 24) (h3 : 0 ≤ x3 ∧ x3 ≤ 3) (hne : x3 ≠ 1) (hP : ¬ zp (M0 2) (24 * p + e) = true) : Ev X 16 0 [fx_f 0, .inl (p : Int), .inl (e : Int), .inl x3, fx_u] [] M (some (.inl (-6))) M :=
  ask_endO (sC_r h f) hp he h3 hne (by rw [ph_fr f]; exact hP)
theorem aE2 {p e : Nat} (h : sC M0 1) (f : frC M M0) (hT : cL (M0 2) (M0 3) T 144) (hp : p < 6) (he : e < 24) (hP : zp (M0 2) (24 * p + e) = true) : ∃ M1, Ev X 16 0 [fx_f 0, .inl (p : Int), .inl (e : Int), .inl 2, fx_u] [] M (some (.inl (T 10 (24 * p + e)))) M1 ∧ frC M1 M0 := by
  obtain ⟨M1, h1, h2⟩ := ask_end2 (X := X) (T := T) (sC_r h f) (by rw [f 2 (by omega), f 3 (by omega)]; exact hT) hp he (by rw [ph_fr f]; exact hP)
  exact ⟨M1, h1, frC_t h2 f⟩
abbrev eL (x1 x2 x3 x4 : Int) (p : Nat) (x6 x7 : Int) (x8 : Int) (v9 v10 v11 v12 v13 : fx_V) : List fx_V := [fx_f 0, .inl x1, .inl x2, .inl x3, .inl x4, .inl (p : Int), .inl x6, .inl x7, .inl x8, v9, v10, v11, v12, v13]
theorem ev_bitE2 {P : Nat → Bool} {e : Nat} : Ev X 194 0 [.inl ((z_edge P e : Nat) : Int), fx_u, fx_u] [] M (some (.inl ((pb_c (fun c => P (12 * e + c)) 12 : Nat) : Int))) M := ev_bits
theorem ends_tail {x1 x2 x3 x6 x7 x8 x9 how x11 x12 x13 : Int} {p : Nat} {r : Option fx_V} (hb : 0 ≤ how ∧ how ≤ 3) (k : Ev X 195 37 (eL x1 (x2 + if how = 3 then 1 else 0) x3 1 p (x6 + 1) (x7 + if how = 2 then 1 else 0) (x8 + 1) (.inl x9) (.inl how) (.inl x11) (.inl x12) (.inl x13)) [] M r M') :
    Ev X 195 168 (eL x1 x2 x3 1 p x6 x7 x8 (.inl x9) (.inl how) (.inl x11) (.inl x12) (.inl x13)) [.inl x6] M r M' := by
  by_cases q : how = 2
  · rw [if_neg (by omega), if_pos q] at k
    exact r195_168F (by omega) q (r195_177T (by omega) (by omega) (r195_188 k))
  · rw [if_neg q] at k
    by_cases q3 : how = 3
    · rw [if_pos q3] at k
      exact r195_168T (by omega) q (r195_179F (by omega) q3 (r195_186 k))
    · rw [if_neg q3] at k
      exact r195_168T (by omega) q (r195_179T (by omega) q3 (r195_188 k))
theorem ends_tail0 {x1 x2 x3 x6 x7 x8 x9 x11 x12 x13 : Int} {p : Nat} {r : Option fx_V} (k : Ev X 195 37 (eL x1 (x2 + 0) x3 1 p (x6 + 0) (x7 + 0) (x8 + 1) (.inl x9) (.inl 0) (.inl x11) (.inl x12) (.inl x13)) [] M r M') :
    Ev X 195 170 (eL x1 x2 x3 1 p x6 x7 x8 (.inl x9) (.inl 0) (.inl x11) (.inl x12) (.inl x13)) [.inl x6] M r M' :=
  r195_170T (by omega) (by omega) (r195_179T (by omega) (by omega) (r195_188 k))
/-- without a stroke -/
theorem ends_no {x1 x2 x3 x6 x7 x11 x12 x13 : Int} {p e : Nat} {r : Option fx_V} (h : sC M0 1) (f : frC M M0) (hp : p < 6) (he : e < 24) (hP : ¬ zp (M0 2) (24 * p + e) = true)
    (k : Ev X 195 37 (eL x1 (x2 + 0) x3 1 p (x6 + 0) (x7 + 0) ((e : Int) + 1) (.inl (-6)) (.inl 0) (.inl x11) (.inl x12) (.inl x13)) [] M r M') :
    Ev X 195 93 (eL x1 x2 x3 1 p x6 x7 (e : Int) (.inl (-6)) (.inl 0) (.inl x11) (.inl x12) (.inl x13)) [] M r M' :=
  r195_93F (by omega) rfl (r195_95 (aEO h f hp he (by omega) (by omega) hP) (r195_100F (by omega) rfl (r195_102 (aEO h f hp he (by omega) (by omega) hP) (r195_107F (by omega) rfl (r195_109T (by omega) (by omega) (ends_tail0 k))))))
theorem T10_b {O H : Nat → Int} (hz : zr O) (hL : cL O H T 144) {k : Nat} (hk : k < 144) : -1 ≤ T 10 k ∧ T 10 k ≤ 72 := by
  have b := (cL_ok hz hL).1
  rcases ln_is hz hL hk with ⟨-, i, h1, h2⟩ | ⟨-, h2⟩
  · have : i < (zN O 144).length := h1
    omega
  · omega
/-- with a stroke, up to its lines -/
theorem ends_yes {x1 x2 x3 x6 x7 x11 x12 x13 how : Int} {p e o : Nat} (h : sC M0 1) (f : frC M M0) (hT : cL (M0 2) (M0 3) T 144) (hp : p < 6) (he : e < 24) (ho : o < 24) (hoe : o ≠ e) (o1 : M0 2 (24 * p + e) = (o : Int)) (o2 : M0 2 (24 * p + o) = (e : Int)) (hb : 0 ≤ how ∧ how ≤ 3)
    (way : ∀ r M', Ev X 195 137 (eL x1 x2 x3 1 p x6 x7 (e : Int) (.inl (o : Int)) (.inl how) (.inl x11) (.inl x12) (.inl x13)) [] M r M' → Ev X 195 123 (eL x1 x2 x3 1 p x6 x7 (e : Int) (.inl (o : Int)) (.inl how) (.inl x11) (.inl x12) (.inl x13)) [] M r M')
    (hx : (x13 = 0 ∧ True) ∨ (x13 = 1 ∧ ∃ q b : Nat, q < 6 ∧ b < 24 ∧ x11 = (q : Int) ∧ x12 = (b : Int) ∧ pn (24 * p + e) = ((24 * q + b : Nat) : Int) ∧ zp (M0 2) (24 * q + b) = true)) :
    ∃ M1, frC M1 M0 ∧ ∀ r M', Ev X 195 37 (eL x1 (x2 + if how = 3 then 1 else 0) x3 1 p (x6 + 1) (x7 + if how = 2 then 1 else 0) ((e : Int) + 1) (.inl (o : Int)) (.inl how) (.inl x11) (.inl x12) (.inl x13)) [] M1 r M' → Ev X 195 113 (eL x1 x2 x3 1 p x6 x7 (e : Int) (.inl (o : Int)) (.inl how) (.inl x11) (.inl x12) (.inl x13)) [] M r M' := by
  have hz : zr (M0 2) := zr_of h
  have hPk : zp (M0 2) (24 * p + e) = true := zp_t.mpr (by omega)
  have hPo : zp (M0 2) (24 * p + o) = true := zp_t.mpr (by omega)
  have zk : zP (M0 2) (24 * p + e) := ⟨by omega, zp_t.mp hPk⟩
  have ezo : zo (M0 2) (24 * p + e) = 24 * p + o := by unfold zo; rw [o1]; omega
  have eT := ln_other hz hT zk
  rw [ezo] at eT
  have bT := T10_b (T := T) hz hT (show 24 * p + e < 144 by omega)
  have a0 := aE0 (X := X) h f hp ho
  rw [if_pos hPo, o2] at a0
  obtain ⟨M1, a1, f1⟩ := aE2 (X := X) h f hT hp ho hPo
  obtain ⟨M2, a2, f2⟩ := aE2 (X := X) h f1 hT hp he hPk
  have go : ∀ r M', Ev X 195 148 (eL x1 x2 x3 1 p x6 x7 (e : Int) (.inl (o : Int)) (.inl how) (.inl x11) (.inl x12) (.inl x13)) [] M2 r M' → Ev X 195 113 (eL x1 x2 x3 1 p x6 x7 (e : Int) (.inl (o : Int)) (.inl how) (.inl x11) (.inl x12) (.inl x13)) [] M r M' := fun r M' k =>
    r195_113 a0 (r195_118F (by omega) rfl (r195_120F (by omega) (by omega) (way r M' (r195_137 a1 (r195_142 a2 (r195_147F (by rw [eT]; omega) eT k))))))
  rcases hx with ⟨h0, -⟩ | ⟨h1, q, b, hq, hb2, eq, eb, en, hj⟩
  · refine ⟨M2, f2, fun r M' k => go r M' (r195_148T (by omega) h0 (r195_161F (by omega) (by omega) (ends_tail hb k)))⟩
  · subst eq
    subst eb
    obtain ⟨M3, a3, f3⟩ := aE2 (X := X) h f2 hT hq hb2 hj
    obtain ⟨M4, a4, f4⟩ := aE2 (X := X) h f3 hT hp he hPk
    have em := ln_meet hT zk en ⟨by omega, zp_t.mp hj⟩
    exact ⟨M4, f4, fun r M' k => go r M' (r195_148F (by omega) (by omega) (r195_150 a3 (r195_155 a4 (r195_160F (by rw [em]; omega) em (r195_161F (by omega) (by omega) (ends_tail hb k))))))⟩
theorem how_0 {P : Nat → Bool} {k : Nat} (h : ¬ P k = true) : z_how P k = 0 := by
  unfold z_how
  rw [if_neg h]
/-- one end -/
theorem ends_one {x1 x2 x3 x6 x7 : Int} {p e : Nat} {v9 v10 v11 v12 v13 : fx_V} (h : sC M0 1) (f : frC M M0) (hT : cL (M0 2) (M0 3) T 144) (hp : p < 6) (he : e < 24) :
    ∃ (M1 : fx_M) (w9 w10 w11 w12 w13 : fx_V), frC M1 M0 ∧ ∀ r M', Ev X 195 37 (eL x1 (x2 + if z_how (zp (M0 2)) (24 * p + e) = 3 then 1 else 0) x3 1 p (x6 + if zp (M0 2) (24 * p + e) = true then 1 else 0) (x7 + if z_how (zp (M0 2)) (24 * p + e) = 2 then 1 else 0) ((e : Int) + 1) w9 w10 w11 w12 w13) [] M1 r M' → Ev X 195 37 (eL x1 x2 x3 1 p x6 x7 (e : Int) v9 v10 v11 v12 v13) [] M r M' := by
  have hz : zr (M0 2) := zr_of h
  have hk : 24 * p + e < 144 := by omega
  obtain ⟨how, hhow⟩ : ∃ how, how = z_how (zp (M0 2)) (24 * p + e) := ⟨_, rfl⟩
  have hb : 0 ≤ how ∧ how ≤ 3 := by rw [hhow]; exact z_how_rg _ _
  have a0 := aE0 (X := X) h f hp he
  have a1 := aE1 (X := X) h f hp he
  rw [← hhow] at a1 ⊢
  -- the neighbour: at 89 there is none, at 87 there is one
  have front : ∀ to : Int, pR to → ∃ (nx bd : Int), pR nx ∧
      (((pn (24 * p + e) = -1 ∧ (nx < 0 ∨ 5 < nx)) ∨ (pn (24 * p + e) ≠ -1 ∧ zp (M0 2) (pn (24 * p + e)).toNat = false ∧ 0 ≤ nx ∧ nx ≤ 5)) ∧ ∀ r M', Ev X 195 89 (eL x1 x2 x3 1 p x6 x7 (e : Int) (.inl to) (.inl how) (.inl nx) (.inl bd) v13) [] M r M' → Ev X 195 53 (eL x1 x2 x3 1 p x6 x7 (e : Int) (.inl to) v10 v11 v12 v13) [.inl how] M r M') ∨
      ((∃ q b : Nat, q < 6 ∧ b < 24 ∧ nx = (q : Int) ∧ bd = (b : Int) ∧ pn (24 * p + e) = ((24 * q + b : Nat) : Int) ∧ zp (M0 2) (24 * q + b) = true) ∧ ∀ r M', Ev X 195 87 (eL x1 x2 x3 1 p x6 x7 (e : Int) (.inl to) (.inl how) (.inl nx) (.inl bd) v13) [] M r M' → Ev X 195 53 (eL x1 x2 x3 1 p x6 x7 (e : Int) (.inl to) v10 v11 v12 v13) [.inl how] M r M') := by
    intro to hto
    by_cases hu : e < 12
    · by_cases h0 : p = 0
      · refine ⟨(p : Int) - 1, (e : Int) + 12, Or.inl ⟨by constructor <;> omega, Or.inl ⟨?_, by omega⟩, fun r M' k => r195_53F (by omega) (by omega) (r195_57F (by omega) (by omega) (r195_68T (by omega) (by omega) k))⟩⟩
        unfold pn
        rw [if_pos (by omega), if_neg (by omega)]
      · have en : pn (24 * p + e) = ((24 * (p - 1) + (e + 12) : Nat) : Int) := by
          unfold pn
          rw [if_pos (by omega), if_pos (by omega)]
          omega
        have ex : (p : Int) - 1 = ((p - 1 : Nat) : Int) := by omega
        have ey : (e : Int) + 12 = ((e + 12 : Nat) : Int) := by omega
        have ae := aE0 (X := X) h f (show p - 1 < 6 by omega) (show e + 12 < 24 by omega)
        by_cases hj : zp (M0 2) (24 * (p - 1) + (e + 12)) = true
        · rw [if_pos hj] at ae
          have bj := hz.1 (24 * (p - 1) + (e + 12)) (by omega)
          have bj2 := zp_t.mp hj
          refine ⟨((p - 1 : Nat) : Int), ((e + 12 : Nat) : Int), Or.inr ⟨⟨p - 1, e + 12, by omega, by omega, rfl, rfl, en, hj⟩, fun r M' k => r195_53F (by omega) (by omega) (r195_57F (by omega) (by omega) ?_)⟩⟩
          rw [ex]
          refine r195_68F (by omega) (by omega) ?_
          rw [ey]
          exact r195_78F (by omega) (by omega) (r195_81 ae (r195_86F (by omega) (by omega) k))
        · rw [if_neg hj] at ae
          refine ⟨((p - 1 : Nat) : Int), ((e + 12 : Nat) : Int), Or.inl ⟨by constructor <;> omega, Or.inr ⟨by omega, ?_, by omega, by omega⟩, fun r M' k => r195_53F (by omega) (by omega) (r195_57F (by omega) (by omega) ?_)⟩⟩
          · rw [en, show (((24 * (p - 1) + (e + 12) : Nat) : Int)).toNat = 24 * (p - 1) + (e + 12) by omega]
            exact Bool.eq_false_iff.mpr hj
          · rw [ex]
            refine r195_68F (by omega) (by omega) ?_
            rw [ey]
            exact r195_78F (by omega) (by omega) (r195_81 ae (r195_86T (by omega) (by omega) k))
    · have ex : (p : Int) + 1 = ((p + 1 : Nat) : Int) := by omega
      have ey : (e : Int) - 12 = ((e - 12 : Nat) : Int) := by omega
      by_cases h0 : p = 5
      · refine ⟨(p : Int) + 1, (e : Int) - 12, Or.inl ⟨by constructor <;> omega, Or.inl ⟨?_, by omega⟩, fun r M' k => r195_53T (by omega) (by omega) (r195_61T (by omega) (by omega) (r195_72F (by omega) (by omega) (r195_78T (by omega) (by omega) k)))⟩⟩
        unfold pn
        rw [if_neg (by omega), if_neg (by omega)]
      · have en : pn (24 * p + e) = ((24 * (p + 1) + (e - 12) : Nat) : Int) := by
          unfold pn
          rw [if_neg (by omega), if_pos (by omega)]
          omega
        have ae := aE0 (X := X) h f (show p + 1 < 6 by omega) (show e - 12 < 24 by omega)
        by_cases hj : zp (M0 2) (24 * (p + 1) + (e - 12)) = true
        · rw [if_pos hj] at ae
          have bj := hz.1 (24 * (p + 1) + (e - 12)) (by omega)
          have bj2 := zp_t.mp hj
          refine ⟨((p + 1 : Nat) : Int), ((e - 12 : Nat) : Int), Or.inr ⟨⟨p + 1, e - 12, by omega, by omega, rfl, rfl, en, hj⟩, fun r M' k => r195_53T (by omega) (by omega) (r195_61T (by omega) (by omega) ?_)⟩⟩
          rw [ex]
          refine r195_72F (by omega) (by omega) ?_
          rw [ey]
          exact r195_78F (by omega) (by omega) (r195_81 ae (r195_86F (by omega) (by omega) k))
        · rw [if_neg hj] at ae
          refine ⟨((p + 1 : Nat) : Int), ((e - 12 : Nat) : Int), Or.inl ⟨by constructor <;> omega, Or.inr ⟨by omega, ?_, by omega, by omega⟩, fun r M' k => r195_53T (by omega) (by omega) (r195_61T (by omega) (by omega) ?_)⟩⟩
          · rw [en, show (((24 * (p + 1) + (e - 12) : Nat) : Int)).toNat = 24 * (p + 1) + (e - 12) by omega]
            exact Bool.eq_false_iff.mpr hj
          · rw [ex]
            refine r195_72F (by omega) (by omega) ?_
            rw [ey]
            exact r195_78F (by omega) (by omega) (r195_81 ae (r195_86T (by omega) (by omega) k))
  by_cases hP : zp (M0 2) (24 * p + e) = true
  · rw [if_pos hP] at a0 ⊢
    obtain ⟨o, ho, hoe, o1, o2⟩ := inv_at hz.2 hp he (zp_t.mp hP)
    rw [o1] at a0
    obtain ⟨nx, bd, hc⟩ := front (o : Int) (by constructor <;> omega)
    rcases hc with ⟨hnx, hn, way⟩ | ⟨⟨q, b, hq, hb2, eq, eb, en, hj⟩, way⟩
    · have hw : ∀ r M', Ev X 195 137 (eL x1 x2 x3 1 p x6 x7 (e : Int) (.inl (o : Int)) (.inl how) (.inl nx) (.inl bd) (.inl 0)) [] M r M' → Ev X 195 123 (eL x1 x2 x3 1 p x6 x7 (e : Int) (.inl (o : Int)) (.inl how) (.inl nx) (.inl bd) (.inl 0)) [] M r M' := by
        intro r M' k
        rcases hn with ⟨n1, n2⟩ | ⟨n1, n2, n3, n4⟩
        · have h3 : how = 3 := by rw [hhow]; unfold z_how; rw [if_pos hP, if_pos n1]
          by_cases n0 : nx < 0
          · exact r195_123T hnx n0 (r195_129F (by omega) h3 k)
          · exact r195_123F hnx (by omega) (r195_126F hnx (by omega) (r195_129F (by omega) h3 k))
        · have h2 : how = 2 := by rw [hhow]; unfold z_how; rw [if_pos hP, if_neg n1, if_neg (by rw [n2]; decide)]
          exact r195_123F hnx (by omega) (r195_126T hnx (by omega) (r195_131T (by omega) rfl (r195_135F (by omega) h2 k)))
      obtain ⟨M1, f1, k1⟩ := ends_yes (X := X) (T := T) (x1 := x1) (x2 := x2) (x3 := x3) (x6 := x6) (x7 := x7) (x11 := nx) (x12 := bd) (x13 := 0) h f hT hp he ho hoe o1 o2 hb hw (Or.inl ⟨rfl, trivial⟩)
      exact ⟨M1, _, _, _, _, _, f1, fun r M' k => r195_37F (by omega) (by omega) (r195_40F (by omega) (by omega) (r195_42 a0 (r195_47 a1 (way r M' (r195_89T (by omega) (by omega) (k1 r M' k))))))⟩
    · have h1 : how = 1 := by
        rw [hhow]
        unfold z_how
        rw [if_pos hP, if_neg (by omega), en, show (((24 * q + b : Nat) : Int)).toNat = 24 * q + b by omega, if_pos hj]
      have hw : ∀ r M', Ev X 195 137 (eL x1 x2 x3 1 p x6 x7 (e : Int) (.inl (o : Int)) (.inl how) (.inl nx) (.inl bd) (.inl 1)) [] M r M' → Ev X 195 123 (eL x1 x2 x3 1 p x6 x7 (e : Int) (.inl (o : Int)) (.inl how) (.inl nx) (.inl bd) (.inl 1)) [] M r M' := fun r M' k =>
        r195_123F (by omega) (by omega) (r195_126T (by omega) (by omega) (r195_131F (by omega) (by omega) (r195_133F (by omega) h1 k)))
      obtain ⟨M1, f1, k1⟩ := ends_yes (X := X) (T := T) (x1 := x1) (x2 := x2) (x3 := x3) (x6 := x6) (x7 := x7) (x11 := nx) (x12 := bd) (x13 := 1) h f hT hp he ho hoe o1 o2 hb hw (Or.inr ⟨rfl, q, b, hq, hb2, eq, eb, en, hj⟩)
      exact ⟨M1, _, _, _, _, _, f1, fun r M' k => r195_37F (by omega) (by omega) (r195_40F (by omega) (by omega) (r195_42 a0 (r195_47 a1 (way r M' (r195_87T (by omega) (by omega) (k1 r M' k))))))⟩
  · have h0 : how = 0 := by rw [hhow]; exact how_0 hP
    rw [if_neg hP] at a0 ⊢
    rw [if_neg (by omega), if_neg (by omega)]
    obtain ⟨nx, bd, hc⟩ := front (-6) (by decide)
    rcases hc with ⟨-, -, way⟩ | ⟨-, way⟩
    · refine ⟨M, .inl (-6), .inl 0, .inl nx, .inl bd, .inl 0, f, fun r M' k => r195_37F (by omega) (by omega) (r195_40F (by omega) (by omega) (r195_42 a0 (r195_47 a1 (way r M' (r195_89F (by omega) (by omega) ?_)))))⟩
      rw [h0]
      exact ends_no h f hp he hP k
    · refine ⟨M, .inl (-6), .inl 0, .inl nx, .inl bd, .inl 1, f, fun r M' k => r195_37F (by omega) (by omega) (r195_40F (by omega) (by omega) (r195_42 a0 (r195_47 a1 (way r M' (r195_87F (by omega) (by omega) ?_)))))⟩
      rw [h0]
      exact ends_no h f hp he hP k
/-- the ends of a panel -/
theorem ends_all {x1 x3 : Int} {p : Nat} (h : sC M0 1) (hT : cL (M0 2) (M0 3) T 144) (hp : p < 6) : ∀ (n e : Nat) (M : fx_M) (v9 v10 v11 v12 v13 : fx_V), e + n = 24 → frC M M0 →
    ∃ (M1 : fx_M) (w9 w10 w11 w12 w13 : fx_V), frC M1 M0 ∧ ∀ r M', Ev X 195 37 (eL x1 ((pb_c (fun i => decide (z_how (zp (M0 2)) i = 3)) (24 * p + 24) : Nat) : Int) x3 1 p ((pb_c (fun i => zp (M0 2) (24 * p + i)) 24 : Nat) : Int) ((pb_c (fun i => decide (z_how (zp (M0 2)) (24 * p + i) = 2)) 24 : Nat) : Int) ((24 : Nat) : Int) w9 w10 w11 w12 w13) [] M1 r M' →
      Ev X 195 37 (eL x1 ((pb_c (fun i => decide (z_how (zp (M0 2)) i = 3)) (24 * p + e) : Nat) : Int) x3 1 p ((pb_c (fun i => zp (M0 2) (24 * p + i)) e : Nat) : Int) ((pb_c (fun i => decide (z_how (zp (M0 2)) (24 * p + i) = 2)) e : Nat) : Int) (e : Int) v9 v10 v11 v12 v13) [] M r M' := by
  intro n
  induction n with
  | zero =>
    intro e M v9 v10 v11 v12 v13 he f
    have : e = 24 := by omega
    subst this
    exact ⟨M, v9, v10, v11, v12, v13, f, fun r M' k => k⟩
  | succ n ih =>
    intro e M v9 v10 v11 v12 v13 he f
    obtain ⟨M1, a9, a10, a11, a12, a13, f1, k1⟩ := ends_one (X := X) (T := T) (x1 := x1) (x2 := ((pb_c (fun i => decide (z_how (zp (M0 2)) i = 3)) (24 * p + e) : Nat) : Int)) (x3 := x3) (x6 := ((pb_c (fun i => zp (M0 2) (24 * p + i)) e : Nat) : Int)) (x7 := ((pb_c (fun i => decide (z_how (zp (M0 2)) (24 * p + i) = 2)) e : Nat) : Int)) (v9 := v9) (v10 := v10) (v11 := v11) (v12 := v12) (v13 := v13) h f hT hp (show e < 24 by omega)
    obtain ⟨M2, b9, b10, b11, b12, b13, f2, k2⟩ := ih (e + 1) M1 a9 a10 a11 a12 a13 (by omega) f1
    refine ⟨M2, b9, b10, b11, b12, b13, f2, fun r M' k => k1 r M' ?_⟩
    have k3 := k2 r M' k
    rw [← Nat.add_assoc] at k3
    simp only [pb_c, decide_eq_true_eq] at k3
    have c1 : ∀ (a : Nat) (q : Prop) [Decidable q], ((a + (if q then 1 else 0) : Nat) : Int) = (a : Int) + (if q then 1 else 0) := by
      intro a q _
      split <;> push_cast <;> rfl
    rw [c1, c1, c1] at k3
    exact k3
theorem ends_pan {p : Nat} (h : sC M0 1) (hT : cL (M0 2) (M0 3) T 144) (hp : p < 6) (f : frC M M0) (v6 v7 v8 v9 v10 v11 v12 v13 : fx_V) : ∃ (M1 : fx_M) (w6 w7 w8 w9 w10 w11 w12 w13 : fx_V), frC M1 M0 ∧
    ∀ r M', Ev X 195 26 [fx_f 0, .inl ((pb_c (fun i => decide (z_how (zp (M0 2)) i = 2)) (24 * (p + 1)) : Nat) : Int), .inl ((pb_c (fun i => decide (z_how (zp (M0 2)) i = 3)) (24 * (p + 1)) : Nat) : Int), .inl ((pb_c (zp (M0 2)) (24 * (p + 1)) : Nat) : Int), .inl 1, .inl ((p + 1 : Nat) : Int), w6, w7, w8, w9, w10, w11, w12, w13] [] M1 r M' →
      Ev X 195 26 [fx_f 0, .inl ((pb_c (fun i => decide (z_how (zp (M0 2)) i = 2)) (24 * p) : Nat) : Int), .inl ((pb_c (fun i => decide (z_how (zp (M0 2)) i = 3)) (24 * p) : Nat) : Int), .inl ((pb_c (zp (M0 2)) (24 * p) : Nat) : Int), .inl 1, .inl (p : Int), v6, v7, v8, v9, v10, v11, v12, v13] [] M r M' := by
  obtain ⟨M1, a9, a10, a11, a12, a13, f1, k1⟩ := ends_all (X := X) (T := T) (x1 := ((pb_c (fun i => decide (z_how (zp (M0 2)) i = 2)) (24 * p) : Nat) : Int)) (x3 := ((pb_c (zp (M0 2)) (24 * p) : Nat) : Int)) h hT hp 24 0 M v9 v10 v11 v12 v13 (by omega) f
  have s1 := sC_r h f1
  have p0 := ask_pan0 (X := X) s1 hp
  have p5 := ask_pan5 (X := X) s1 hp
  have p2 := ask_pan2 (X := X) s1 hp
  have p3 := ask_pan3 (X := X) s1 hp
  rw [ph_fr f1] at p0 p5 p2 p3
  have st : pb_c (fun e => zp (M0 2) (24 * p + e)) 24 = 2 * z_str (zp (M0 2)) p := str_two h.2 hp
  have stb := z_str_b (zp (M0 2)) p
  have e12 : pb_c (fun i => zp (M0 2) (24 * p + i)) 24 = pb_c (fun c => zp (M0 2) (12 * (2 * p) + c)) 12 + pb_c (fun c => zp (M0 2) (12 * (2 * p + 1) + c)) 12 := by
    rw [show (24 : Nat) = 12 + 12 from rfl, pb_c_add]
    congr 1
    · exact pb_c_ext fun i _ => by rw [show (12 + 12) * p + i = 12 * (2 * p) + i by omega]
    · exact pb_c_ext fun i _ => by rw [show (12 + 12) * p + (12 + i) = 12 * (2 * p + 1) + i by omega]
  have q1 := pb_c_le (fun c => zp (M0 2) (12 * (2 * p) + c)) 12
  have q2 := pb_c_le (fun c => zp (M0 2) (12 * (2 * p + 1) + c)) 12
  have q3 := pb_c_le (fun i => decide (z_how (zp (M0 2)) (24 * p + i) = 2)) 24
  have e2 : ((pb_c (fun i => decide (z_how (zp (M0 2)) i = 2)) (24 * p) : Nat) : Int) + ((pb_c (fun i => decide (z_how (zp (M0 2)) (24 * p + i) = 2)) 24 : Nat) : Int) = ((pb_c (fun i => decide (z_how (zp (M0 2)) i = 2)) (24 * (p + 1)) : Nat) : Int) := by rw [Nat.mul_succ, pb_c_add]; push_cast; rfl
  have e3 : ((pb_c (zp (M0 2)) (24 * p) : Nat) : Int) + ((pb_c (fun i => zp (M0 2) (24 * p + i)) 24 : Nat) : Int) = ((pb_c (zp (M0 2)) (24 * (p + 1)) : Nat) : Int) := by rw [Nat.mul_succ, pb_c_add]; push_cast; rfl
  refine ⟨M1, .inl ((pb_c (fun i => zp (M0 2) (24 * p + i)) 24 : Nat) : Int), .inl ((pb_c (fun i => decide (z_how (zp (M0 2)) (24 * p + i) = 2)) 24 : Nat) : Int), .inl ((24 : Nat) : Int), a9, a10, a11, a12, a13, f1, fun r M' k => r195_26F (by omega) (by omega) (r195_29F (by omega) (by omega) (r195_31 (k1 r M' (r195_37T (by omega) (by omega) (r195_193F (by omega) (by omega) (r195_203 p0 (r195_207F (by omega) (by omega) (r195_211 p5 (r195_215F (by omega) rfl (r195_217 p2 (r195_221 ev_bitE2 (r195_222 p3 (r195_226 ev_bitE2 (r195_227F (by omega) (by omega) (r195_230 ?_)))))))))))))))⟩
  rw [e2, e3]
  exact k
theorem law_ends (h : sC M 1) : ∃ M', Ev X 195 0 [fx_f 0, fx_u, fx_u, fx_u, fx_u, fx_u, fx_u, fx_u, fx_u, fx_u, fx_u, fx_u, fx_u, fx_u] [] M (some (.inl 1)) M' ∧ frC M' M := by
  obtain ⟨T, -, hT, -⟩ := trace_D (X := X) h
  have key : ∀ (n p : Nat) (M1 : fx_M) (v6 v7 v8 v9 v10 v11 v12 v13 : fx_V), p + n = 6 → frC M1 M → ∃ M', Ev X 195 26 [fx_f 0, .inl ((pb_c (fun i => decide (z_how (zp (M 2)) i = 2)) (24 * p) : Nat) : Int), .inl ((pb_c (fun i => decide (z_how (zp (M 2)) i = 3)) (24 * p) : Nat) : Int), .inl ((pb_c (zp (M 2)) (24 * p) : Nat) : Int), .inl 1, .inl (p : Int), v6, v7, v8, v9, v10, v11, v12, v13] [] M1 (some (.inl 1)) M' ∧ frC M' M := by
    intro n
    induction n with
    | zero =>
      intro p M1 v6 v7 v8 v9 v10 v11 v12 v13 hp f
      have : p = 6 := by omega
      subst this
      have s1 := sC_r h f
      have c3 := ask_cnt3 (X := X) s1
      have c4 := ask_cnt4 (X := X) s1
      have c0 := ask_cnt0 (X := X) s1
      rw [ph_fr f] at c3 c4 c0
      have e3 := z_loose_c (zp (M 2))
      have e4 := z_free_c (zp (M 2))
      have e0 : pb_c (zp (M 2)) 144 = 2 * pb_n (z_str (zp (M 2))) 6 := strs_two h.2
      have b3 := z_loose_b (zp (M 2))
      have b0 := str_b (zp (M 2))
      have b4 := pb_c_le (fun i => decide (z_how (zp (M 2)) i = 3)) 144
      rw [show 24 * 6 = 144 from rfl, e3, e4, e0]
      exact ⟨M1, r195_26T (by omega) (by omega) (r195_236F (by omega) (by omega) (r195_238 c3 (r195_242F (by omega) rfl (r195_243 c4 (r195_247F (by omega) rfl (r195_248 c0 (r195_253F (by omega) (by push_cast; omega) r195_255))))))), f⟩
    | succ n ih =>
      intro p M1 v6 v7 v8 v9 v10 v11 v12 v13 hp f
      obtain ⟨M2, w6, w7, w8, w9, w10, w11, w12, w13, f2, k⟩ := ends_pan (X := X) (T := T) h hT (show p < 6 by omega) f v6 v7 v8 v9 v10 v11 v12 v13
      obtain ⟨M', k2, f3⟩ := ih (p + 1) M2 w6 w7 w8 w9 w10 w11 w12 w13 (by omega) f2
      exact ⟨M', k _ _ k2, f3⟩
  obtain ⟨M', k, f⟩ := key 6 0 M fx_u fx_u fx_u fx_u fx_u fx_u fx_u fx_u (by omega) (frC_r M)
  exact ⟨M', r195_0 (ask_endN (by omega) (by omega) (by omega)) (r195_11F (by omega) rfl (r195_13 (ask_endN (by omega) (by omega) (by omega)) (r195_18F (by omega) rfl (r195_20 k)))), f⟩
end LWE

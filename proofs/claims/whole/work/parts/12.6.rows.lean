/-! what is asked of the lines -/
def l_in (t : Nat → Int) (p n : Nat) : Nat := pb_c (fun i => (t i).toNat.testBit p) n
def l_lp (q : Nat → Int) (n : Nat) : Nat := pb_c (fun i => decide (q i ≠ 0)) n
def l_mx (a : Nat → Int) : Nat → Int
  | 0 => 0
  | n + 1 => if l_mx a n < a n then a n else l_mx a n
def l_tb (q l g : Nat → Int) (n : Nat) : Nat := pb_c (fun i => decide (q i = 0 ∧ l i < 12 ∧ 132 ≤ g i)) n
theorem l_mx_b {a : Nat → Int} {n : Nat} (h : ∀ i, i < n → 0 ≤ a i ∧ a i ≤ 72) : 0 ≤ l_mx a n ∧ l_mx a n ≤ 72 := by
  induction n with
  | zero => exact ⟨Int.le_refl 0, by show (0 : Int) ≤ 72; omega⟩
  | succ n ih =>
    have h1 := ih (fun i hi => h i (by omega))
    have h2 := h n (by omega)
    rw [l_mx]
    split <;> omega
theorem l_mx_e {a b : Nat → Int} {n : Nat} (h : ∀ i, i < n → a i = b i) : l_mx a n = l_mx b n := by
  induction n with
  | zero => rfl
  | succ n ih => rw [l_mx, l_mx, ih (fun i hi => h i (by omega)), h n (by omega)]
/-- rows of a table of lines -/
def lOK (a t l g q : Nat → Int) (n : Nat) : Prop := n ≤ 72 ∧ ∀ i, i < n → (0 ≤ a i ∧ a i ≤ 72) ∧ (0 ≤ t i ∧ t i < 64) ∧ (-6 ≤ l i ∧ l i < 144) ∧ (-6 ≤ g i ∧ g i < 144) ∧ (q i = 0 ∨ q i = 1)
section LNQ
variable {X : fx_Sc} {M M' : fx_M}
theorem ev_l50 {i : Nat} (hi : i < 72) : Ev X 50 0 [fx_f 9, .inl (i : Int)] [] M (some (.inl (M 11 i))) M := r50_0 (ev_isIndex_y (by omega)) (r50_2F (by omega) (by omega) (Ev.res (by congr 1) (r50_3 (by omega))))
theorem ev_l48 {i : Nat} (hi : i < 72) : Ev X 48 0 [fx_f 9, .inl (i : Int)] [] M (some (.inl (M 12 i))) M := r48_0 (ev_isIndex_y (by omega)) (r48_2F (by omega) (by omega) (Ev.res (by congr 1) (r48_3 (by omega))))
theorem ev_l52 {i : Nat} (hi : i < 72) : Ev X 52 0 [fx_f 9, .inl (i : Int)] [] M (some (.inl (M 13 i))) M := r52_0 (ev_isIndex_y (by omega)) (r52_2F (by omega) (by omega) (Ev.res (by congr 1) (r52_3 (by omega))))
theorem ev_l53 {i : Nat} (hi : i < 72) : Ev X 53 0 [fx_f 9, .inl (i : Int)] [] M (some (.inl (M 14 i))) M := r53_0 (ev_isIndex_y (by omega)) (r53_2F (by omega) (by omega) (Ev.res (by congr 1) (r53_3 (by omega))))
theorem ev_l54 {i : Nat} (hi : i < 72) : Ev X 54 0 [fx_f 9, .inl (i : Int)] [] M (some (.inl (M 15 i))) M := r54_0 (ev_isIndex_y (by omega)) (r54_2F (by omega) (by omega) (Ev.res (by congr 1) (r54_3 (by omega))))
theorem ev_l51 {i : Nat} (hi : i < 72) (h : M 16 i = 0 ∨ M 16 i = 1) : Ev X 51 0 [fx_f 9, .inl (i : Int)] [] M (some (.inl (M 16 i))) M := by
  have ei : (i : Int).toNat = i := by omega
  refine r51_0 (ev_isIndex_y (by omega)) (r51_2F (by omega) (by omega) ?_)
  rcases h with h | h
  · rw [h]
    exact r51_3T (by rw [ei, h]; omega) (by rw [ei, h]) r51_10
  · rw [h]
    exact r51_3F (by rw [ei, h]; omega) (by rw [ei, h]; omega) r51_8
theorem ev_l46 {k : Nat} (hk : k < 144) : Ev X 46 0 [fx_f 9, .inl (k : Int)] [] M (some (.inl (M 10 k))) M := r46_0 (ev_isPlace_y (by omega)) (r46_2F (by omega) (by omega) (Ev.res (by congr 1) (r46_3 (by omega))))
theorem ev_l47 {n p : Nat} (hn : M 9 0 = (n : Int)) (h : lOK (M 11) (M 12) (M 14) (M 15) (M 16) n) (hp : p < 6) : Ev X 47 0 [fx_f 9, .inl (p : Int), fx_u, fx_u] [] M (some (.inl (l_in (M 12) p n : Int))) M := by
  refine r47_0 ?_
  have h72 := h.1
  refine Ev.loop n (fun c => [fx_f 9, .inl (p : Int), .inl ((l_in (M 12) p c : Nat) : Int), .inl (c : Int)]) (fun _ => M) (fun c hc k => ?_) (r47_4T (by rw [hn]; omega) (by rw [hn]; omega) r47_19)
  have hb := (h.2 c hc).2.1
  have et : M 12 c = (((M 12 c).toNat : Nat) : Int) := by omega
  have hm := pb_mask (a := (M 12 c).toNat) (c := p) (by omega) (by omega)
  rw [← et] at hm
  have h2 : 2 ^ p < 2 ^ 6 := Nat.pow_lt_pow_right (by omega) hp
  have h3 := Nat.two_pow_pos p
  refine r47_4F (by rw [hn]; omega) (by rw [hn]; omega) (r47_8 (ev_l48 (by omega)) ?_)
  unfold l_in at k ⊢
  simp only [pb_c] at k
  by_cases ht : (M 12 c).toNat.testBit p = true
  · rw [if_pos ht] at hm k
    exact r47_11F (by rw [hm]; omega) (by rw [hm]; omega) (r47_16 k)
  · rw [if_neg ht] at hm k
    exact r47_11T (by rw [hm]; omega) hm (r47_17 k)
theorem ev_l55 {n : Nat} (hn : M 9 0 = (n : Int)) (h : lOK (M 11) (M 12) (M 14) (M 15) (M 16) n) : Ev X 55 0 [fx_f 9, fx_u, fx_u] [] M (some (.inl (l_lp (M 16) n : Int))) M := by
  refine r55_0 ?_
  have h72 := h.1
  refine Ev.loop n (fun c => [fx_f 9, .inl ((l_lp (M 16) c : Nat) : Int), .inl (c : Int)]) (fun _ => M) (fun c hc k => ?_) (r55_4T (by rw [hn]; omega) (by rw [hn]; omega) r55_15)
  have hb := (h.2 c hc).2.2.2.2
  refine r55_4F (by rw [hn]; omega) (by rw [hn]; omega) (r55_8 (ev_l51 (by omega) hb) ?_)
  unfold l_lp at k ⊢
  simp only [pb_c, decide_eq_true_eq] at k
  by_cases ht : M 16 c ≠ 0
  · rw [if_pos ht] at k
    exact r55_11F (by omega) ht (r55_12 k)
  · rw [if_neg ht] at k
    exact r55_11T (by omega) (by omega) (r55_13 k)
theorem ev_l56 {n : Nat} (hn : M 9 0 = (n : Int)) (h : lOK (M 11) (M 12) (M 14) (M 15) (M 16) n) : Ev X 56 0 [fx_f 9, fx_u, fx_u] [] M (some (.inl (l_mx (M 11) n))) M := by
  refine r56_0 ?_
  have h72 := h.1
  refine Ev.loop n (fun c => [fx_f 9, .inl (l_mx (M 11) c), .inl (c : Int)]) (fun _ => M) (fun c hc k => ?_) (r56_4T (by rw [hn]; omega) (by rw [hn]; omega) r56_16)
  have hb := (h.2 c hc).1
  have hb2 := l_mx_b (a := M 11) (n := c) (fun i hi => (h.2 i (by omega)).1)
  exact r56_4F (by rw [hn]; omega) (by rw [hn]; omega) (r56_8 (ev_l50 (by omega)) (r56_12 (by omega) k))
theorem ev_l57 {n : Nat} (hn : M 9 0 = (n : Int)) (h : lOK (M 11) (M 12) (M 14) (M 15) (M 16) n) : Ev X 57 0 [fx_f 9, fx_u, fx_u, fx_u] [] M (some (.inl (l_tb (M 16) (M 14) (M 15) n : Int))) M := by
  refine r57_0 ?_
  have h72 := h.1
  refine Ev.loop1 n (fun c u => [fx_f 9, .inl ((l_tb (M 16) (M 14) (M 15) c : Nat) : Int), .inl (c : Int), u]) (fun _ => M) (fun c hc k u => ?_) (fun u => r57_4T (by rw [hn]; omega) (by rw [hn]; omega) r57_31) fx_u
  have hb := (h.2 c hc).2.2
  refine r57_4F (by rw [hn]; omega) (by rw [hn]; omega) (r57_8 (ev_l51 (by omega) hb.2.2) ?_)
  unfold l_tb at k ⊢
  simp only [pb_c, decide_eq_true_eq] at k
  by_cases h1 : M 16 c ≠ 0
  · rw [if_neg (fun q => h1 q.1)] at k
    exact r57_11T (by omega) h1 (r57_19 (k _))
  · refine r57_11F (by omega) (by omega) (r57_12 (ev_l53 (by omega)) ?_)
    by_cases h2 : 12 ≤ M 14 c
    · rw [if_neg (fun q => by omega)] at k
      exact r57_15T (by omega) h2 (r57_19 (k _))
    · refine r57_15F (by omega) (by omega) (r57_17 (ev_l54 (by omega)) ?_)
      by_cases h3 : M 15 c < 132
      · rw [if_neg (fun q => by omega)] at k
        exact r57_26T (by omega) h3 (r57_29 (k _))
      · rw [if_pos (by omega)] at k
        exact r57_26F (by omega) (by omega) (r57_28 (k _))
theorem evm_linesIn {n p : Nat} (hn : M 56 14 = (n : Int)) (h : lOK (M 64) (M 66) (M 67) (M 68) (M 65) n) (hp : p < 6) : Ev X 159 0 [fx_f 56, .inl (p : Int), fx_u, fx_u] [] M (some (.inl (l_in (M 66) p n : Int))) M := by
  refine r159_0 ?_
  have h72 := h.1
  refine Ev.loop n (fun c => [fx_f 56, .inl (p : Int), .inl ((l_in (M 66) p c : Nat) : Int), .inl (c : Int)]) (fun _ => M) (fun c hc k => ?_) (r159_4T (by rw [hn]; omega) (by rw [hn]; omega) r159_21)
  have hb := (h.2 c hc).2.1
  have et : M 66 c = (((M 66 c).toNat : Nat) : Int) := by omega
  have hm := pb_bit (a := (M 66 c).toNat) (c := p) (by omega) (by omega)
  rw [← et] at hm
  refine r159_4F (by rw [hn]; omega) (by rw [hn]; omega) (r159_8 (by omega) ?_)
  rw [show (c : Int).toNat = c by omega, hm]
  unfold l_in at k ⊢
  simp only [pb_c] at k
  by_cases ht : (M 66 c).toNat.testBit p = true
  · rw [if_pos ht] at k ⊢
    exact k
  · rw [if_neg ht] at k ⊢
    rw [Int.add_zero]
    exact k
def l_q (w : Int) (q l g : Nat → Int) (n : Nat) : Int := if w = 2 then ((l_lp q n : Nat) : Int) else ((l_tb q l g n : Nat) : Int)
theorem evm_ofLines {n : Nat} {w : Int} (hn : M 56 14 = (n : Int)) (h : lOK (M 64) (M 66) (M 67) (M 68) (M 65) n) (hw : pR w) : Ev X 170 0 [fx_f 56, .inl w, fx_u, fx_u, fx_u, fx_u] [] M (some (.inl (if w = 7 then l_mx (M 64) n else l_q w (M 65) (M 67) (M 68) n))) M := by
  refine r170_0 ?_
  have h72 := h.1
  have e0 : l_q w (M 65) (M 67) (M 68) 0 = 0 := by unfold l_q; split <;> rfl
  have main : Ev X 170 6 [fx_f 56, .inl w, .inl (l_q w (M 65) (M 67) (M 68) 0), .inl (l_mx (M 64) 0), .inl ((0 : Nat) : Int), fx_u] [] M (some (.inl (if w = 7 then l_mx (M 64) n else l_q w (M 65) (M 67) (M 68) n))) M := by
    refine Ev.loop1 n (fun c u => [fx_f 56, .inl w, .inl (l_q w (M 65) (M 67) (M 68) c), .inl (l_mx (M 64) c), .inl (c : Int), u]) (fun _ => M) (fun c hc k u => ?_) (fun u => r170_6T (by rw [hn]; omega) (by rw [hn]; omega) ?_) fx_u
    · obtain ⟨b1, b2, b3, b4, b5⟩ := h.2 c hc
      have hb2 := l_mx_b (a := M 64) (n := c) (fun i hi => (h.2 i (by omega)).1)
      have ec : (c : Int).toNat = c := by omega
      simp only [l_mx] at k
      have g64 : (0 ≤ (c : Int) ∧ (c : Int) < ((72 : Nat) : Int)) ∧ (-2147483648 ≤ M 64 (c : Int).toNat ∧ M 64 (c : Int).toNat < 2147483648) ∧ (-2147483648 ≤ l_mx (M 64) c ∧ l_mx (M 64) c < 2147483648) := by rw [ec]; omega
      have t58 : ∀ (y x5 : Int), y = l_q w (M 65) (M 67) (M 68) (c + 1) → M 64 c ≤ l_mx (M 64) c → Ev X 170 58 [fx_f 56, .inl w, .inl y, .inl (l_mx (M 64) c), .inl (c : Int), .inl x5] [] M (some (.inl (if w = 7 then l_mx (M 64) n else l_q w (M 65) (M 67) (M 68) n))) M := by
        intro y x5 hy hm
        rw [if_neg (by omega)] at k
        rw [hy]
        exact r170_58 (k _)
      have t53 : ∀ (y x5 : Int), y = l_q w (M 65) (M 67) (M 68) (c + 1) → l_mx (M 64) c < M 64 c → Ev X 170 53 [fx_f 56, .inl w, .inl y, .inl (l_mx (M 64) c), .inl (c : Int), .inl x5] [] M (some (.inl (if w = 7 then l_mx (M 64) n else l_q w (M 65) (M 67) (M 68) n))) M := by
        intro y x5 hy hm
        rw [if_pos (by omega)] at k
        rw [hy]
        refine r170_53 (by omega) ?_
        rw [ec]
        exact k _
      have w35 : ∀ x5 : Int, w = 2 → Ev X 170 35 [fx_f 56, .inl w, .inl (l_q w (M 65) (M 67) (M 68) c), .inl (l_mx (M 64) c), .inl (c : Int), .inl x5] [.inl (l_q w (M 65) (M 67) (M 68) c)] M (some (.inl (if w = 7 then l_mx (M 64) n else l_q w (M 65) (M 67) (M 68) n))) M := by
        intro x5 h2
        have hy : l_q w (M 65) (M 67) (M 68) c + M 65 c = l_q w (M 65) (M 67) (M 68) (c + 1) := by
          unfold l_q
          rw [if_pos h2, if_pos h2]
          unfold l_lp
          simp only [pb_c, decide_eq_true_eq]
          rcases b5 with b5 | b5
          · rw [b5, if_neg (by omega)]; push_cast; omega
          · rw [b5, if_pos (by omega)]; push_cast; omega
        by_cases hm : M 64 c ≤ l_mx (M 64) c
        · exact r170_35T g64 (by rw [ec]; exact hm) (by rw [ec]; exact t58 _ _ hy hm)
        · exact r170_35F g64 (by rw [ec]; omega) (by rw [ec]; exact t53 _ _ hy (by omega))
      have w29 : ¬ (M 65 c = 0 ∧ M 67 c < 12 ∧ 132 ≤ M 68 c) → Ev X 170 29 [fx_f 56, .inl w, .inl (l_q w (M 65) (M 67) (M 68) c), .inl (l_mx (M 64) c), .inl (c : Int), u] [] M (some (.inl (if w = 7 then l_mx (M 64) n else l_q w (M 65) (M 67) (M 68) n))) M := by
        intro hno
        by_cases h2 : w = 2
        · exact r170_29F hw h2 (w35 0 h2)
        · have hy : l_q w (M 65) (M 67) (M 68) c + 0 = l_q w (M 65) (M 67) (M 68) (c + 1) := by
            unfold l_q
            rw [if_neg h2, if_neg h2]
            unfold l_tb
            simp only [pb_c, decide_eq_true_eq]
            rw [if_neg hno]; push_cast; omega
          refine r170_29T hw h2 (r170_40T (by omega) rfl ?_)
          by_cases hm : M 64 c ≤ l_mx (M 64) c
          · exact r170_44T g64 (by rw [ec]; exact hm) (t58 _ _ hy hm)
          · exact r170_44F g64 (by rw [ec]; omega) (t53 _ _ hy (by omega))
      refine r170_6F (by rw [hn]; omega) (by rw [hn]; omega) ?_
      by_cases h1 : M 65 c ≠ 0
      · exact r170_10T (by rw [ec]; omega) (by rw [ec]; exact h1) (w29 (by omega))
      · refine r170_10F (by rw [ec]; omega) (by rw [ec]; omega) ?_
        by_cases h3 : 12 ≤ M 67 c
        · exact r170_15T (by rw [ec]; omega) (by rw [ec]; exact h3) (w29 (by omega))
        · refine r170_15F (by rw [ec]; omega) (by rw [ec]; omega) ?_
          by_cases h4 : M 68 c < 132
          · exact r170_21T (by rw [ec]; omega) (by rw [ec]; exact h4) (w29 (by omega))
          · refine r170_21F (by rw [ec]; omega) (by rw [ec]; omega) ?_
            by_cases h2 : w = 2
            · exact r170_27F hw h2 (w35 1 h2)
            · have hy : l_q w (M 65) (M 67) (M 68) c + 1 = l_q w (M 65) (M 67) (M 68) (c + 1) := by
                unfold l_q
                rw [if_neg h2, if_neg h2]
                unfold l_tb
                simp only [pb_c, decide_eq_true_eq]
                rw [if_pos (by omega)]; push_cast; omega
              refine r170_27T hw h2 (r170_40F (by omega) (by omega) ?_)
              by_cases hm : M 64 c ≤ l_mx (M 64) c
              · exact r170_42T g64 (by rw [ec]; exact hm) (t58 _ _ hy hm)
              · exact r170_42F g64 (by rw [ec]; omega) (t53 _ _ hy (by omega))
    · by_cases h7 : w = 7
      · rw [if_pos h7]
        exact r170_62F hw h7 r170_65
      · rw [if_neg h7]
        exact r170_62T hw h7 r170_67
  rw [e0] at main
  exact main
end LNQ
/-! both tables hold the same -/
theorem zT_b {H : Nat → Int} {S : Nat → Prop} {m t w : Nat} (h : zT H S m t w) : m ≤ 72 ∧ t < 64 ∧ w < 64 := by
  have := pb_c_le (zb S) 144
  exact ⟨by have := h.1; omega, h.2.1.1, h.2.2.1⟩
theorem zT_un {H : Nat → Int} {S : Nat → Prop} {m t w m' t' w' : Nat} (h : zT H S m t w) (h' : zT H S m' t' w') : m = m' ∧ t = t' ∧ w = w' := ⟨by have := h.1; have := h'.1; omega, zps_un h.2.1 h'.2.1, zps_un h.2.2 h'.2.2⟩
theorem zRes_b {O : Nat → Int} (hz : zr O) {a : Nat} (ha : zP O a) {l g p : Int} (h : zRes O a l g p) : (-6 ≤ l ∧ l < 144) ∧ (-6 ≤ g ∧ g < 144) ∧ (p = 0 ∨ p = 1) := by
  rcases h with ⟨h1, h2, h3, h4⟩ | ⟨u, v, h1, h2, h3, h4⟩
  · omega
  · have := (zc_P hz ha h1.2.1).1
    have := (zc_P hz ha h1.2.2.1).1
    omega
theorem zU_le {O : Nat → Int} {c : Nat} (h : 2 * (zN O c).length ≤ pb_c (zb (zU (zN O c) O)) 144) : (zN O c).length ≤ 72 := by
  have := pb_c_le (zb (zU (zN O c) O)) 144
  omega
theorem cL_ok {O H : Nat → Int} {M : fx_M} {c : Nat} (hz : zr O) (h : cL O H M c) : lOK (M 11) (M 12) (M 14) (M 15) (M 16) (zN O c).length := by
  refine ⟨zU_le h.2.2.2, fun i hi => ?_⟩
  obtain ⟨m, t, w, e1, e2, e3, e4, e5⟩ := h.2.2.1 i _ (List.getElem?_eq_getElem hi)
  have hb := zT_b e4
  have hr := zRes_b hz (zN_in (List.getElem_mem hi)).1 e5
  exact ⟨by omega, by omega, hr⟩
theorem mL_ok {O H : Nat → Int} {M : fx_M} {c : Nat} (hz : zr O) (h : mL O H M c) : lOK (M 64) (M 66) (M 67) (M 68) (M 65) (zN O c).length := by
  refine ⟨zU_le h.2.2.2, fun i hi => ?_⟩
  obtain ⟨w0, m, t, w, e1, e2, e3, e4, e5⟩ := h.2.2.1 i _ (List.getElem?_eq_getElem hi)
  have hb := zT_b e4
  have hr := zRes_b hz (zN_in (List.getElem_mem hi)).1 e5
  exact ⟨by omega, by omega, hr⟩
theorem pb_o_bit {g : Nat → Nat} {n b : Nat} : (pb_o g n).testBit b = true ↔ ∃ i, i < n ∧ (g i).testBit b = true := by
  induction n with
  | zero => simp [pb_o]
  | succ n ih =>
    rw [pb_o, Nat.testBit_or, Bool.or_eq_true, ih]
    constructor
    · rintro (⟨i, h1, h2⟩ | h)
      · exact ⟨i, by omega, h2⟩
      · exact ⟨n, by omega, h⟩
    · rintro ⟨i, h1, h2⟩
      by_cases h : i = n
      · subst h; exact Or.inr h2
      · exact Or.inl ⟨i, by omega, h2⟩
theorem zps_ho {H : Nat → Int} {S : Nat → Prop} {t w : Nat} (hS : ∀ k, S k → k < 144) (hH : ∀ p, p < 6 → 0 ≤ H p ∧ H p < 6) (ht : zps S (fun k => k / 24) t) (hw : zps S (zhf H) w) : y_ho H t = w := by
  refine Nat.eq_of_testBit_eq fun b => ?_
  rw [Bool.eq_iff_iff, hw.2]
  unfold y_ho
  rw [pb_o_bit]
  constructor
  · rintro ⟨p, h1, h2⟩
    by_cases hp : t.testBit p = true
    · rw [if_pos hp, Nat.testBit_two_pow, decide_eq_true_eq] at h2
      obtain ⟨k, h3, h4⟩ := (ht.2 p).mp hp
      exact ⟨k, h3, by unfold zhf; rw [show k / 24 = p from h4]; exact h2⟩
    · rw [if_neg hp, Nat.zero_testBit] at h2
      cases h2
  · rintro ⟨k, h1, h2⟩
    have := hS k h1
    refine ⟨k / 24, by omega, ?_⟩
    rw [if_pos ((ht.2 (k / 24)).mpr ⟨k, h1, rfl⟩), Nat.testBit_two_pow, decide_eq_true_eq]
    exact h2
theorem lines_eq {O H : Nat → Int} {M M' : fx_M} (hz : zr O) (hH : ∀ p, p < 6 → 0 ≤ H p ∧ H p < 6) (h : cL O H M 144) (h' : mL O H M' 144) : ∀ i, i < (zN O 144).length → M 11 i = M' 64 i ∧ M 12 i = M' 66 i ∧ M 13 i = (y_ho H (M' 66 i).toNat : Int) ∧ M 14 i = M' 67 i ∧ M 15 i = M' 68 i ∧ M 16 i = M' 65 i := by
  intro i hi
  obtain ⟨m, t, w, e1, e2, e3, e4, e5⟩ := h.2.2.1 i _ (List.getElem?_eq_getElem hi)
  obtain ⟨w0, m', t', w', f1, f2, f3, f4, f5⟩ := h'.2.2.1 i _ (List.getElem?_eq_getElem hi)
  have hu := zT_un e4 f4
  have hr := zRes_un e5 f5
  have ho := zps_ho (fun k hk => (zc_P hz (zN_in (List.getElem_mem hi)).1 hk).1) hH f4.2.1 f4.2.2
  refine ⟨by omega, by omega, ?_, hr.1, hr.2.1, hr.2.2⟩
  rw [f2, show (t' : Int).toNat = t' by omega, ho]
  omega
theorem lineAt_eq {O H : Nat → Int} {M M' : fx_M} (h : cL O H M 144) (h' : mL O H M' 144) {k : Nat} (hk : zP O k) : M 10 k = M' 63 k - 1 ∧ 0 ≤ M 10 k ∧ M 10 k < 72 := by
  obtain ⟨s, h1, h2⟩ := zN_all (c := 144) hk.1 hk
  obtain ⟨i, h3, h4⟩ := li_mem h1
  have e1 := (h.2.1 k hk.1).1 i s h3 h2
  have e2 := (h'.2.1 k hk.1).1 i s h3 h2
  have := zU_le h.2.2.2
  omega

/-! tables of lines -/
def pb_o (g : Nat → Nat) : Nat → Nat
  | 0 => 0
  | n + 1 => pb_o g n ||| g n
theorem pb_o_lt {g : Nat → Nat} {n b : Nat} (h : ∀ i, i < n → g i < 2 ^ b) : pb_o g n < 2 ^ b := by
  induction n with
  | zero => exact Nat.two_pow_pos b
  | succ n ih => exact Nat.or_lt_two_pow (ih (fun i hi => h i (by omega))) (h n (by omega))
theorem pb_o_ext {g h : Nat → Nat} {n : Nat} (e : ∀ i, i < n → g i = h i) : pb_o g n = pb_o h n := by
  induction n with
  | zero => rfl
  | succ n ih => rw [pb_o, pb_o, ih (fun i hi => e i (by omega)), e n (by omega)]
/-- the hands of a set of panels -/
def y_ho (H : Nat → Int) (s : Nat) : Nat := pb_o (fun p => if s.testBit p = true then 2 ^ (H p).toNat else 0) 6
/-! what is asked of the lines -/
def l_in (t : Nat → Int) (p n : Nat) : Nat := pb_c (fun i => (t i).toNat.testBit p) n
def l_lp (q : Nat → Int) (n : Nat) : Nat := pb_c (fun i => decide (q i ≠ 0)) n
def l_mx (a : Nat → Int) : Nat → Int
  | 0 => 0
  | n + 1 => if l_mx a n < a n then a n else l_mx a n
def l_tb (q l g : Nat → Int) (n : Nat) : Nat := pb_c (fun i => decide (q i = 0 ∧ l i < 12 ∧ 132 ≤ g i)) n
theorem l_mx_b {a : Nat → Int} {n : Nat} (h : ∀ i, i < n → 0 ≤ a i ∧ a i ≤ 72) : 0 ≤ l_mx a n ∧ l_mx a n ≤ 72 := by
  induction n with
  | zero => exact ⟨Int.le_refl 0, by show (0 : Int) ≤ 72; omega⟩
  | succ n ih =>
    have h1 := ih (fun i hi => h i (by omega))
    have h2 := h n (by omega)
    rw [l_mx]
    split <;> omega
theorem l_mx_e {a b : Nat → Int} {n : Nat} (h : ∀ i, i < n → a i = b i) : l_mx a n = l_mx b n := by
  induction n with
  | zero => rfl
  | succ n ih => rw [l_mx, l_mx, ih (fun i hi => h i (by omega)), h n (by omega)]
/-- rows of a table of lines -/
def lOK (a t l g q : Nat → Int) (n : Nat) : Prop := n ≤ 72 ∧ ∀ i, i < n → (0 ≤ a i ∧ a i ≤ 72) ∧ (0 ≤ t i ∧ t i < 64) ∧ (-6 ≤ l i ∧ l i < 144) ∧ (-6 ≤ g i ∧ g i < 144) ∧ (q i = 0 ∨ q i = 1)
section LNQ
variable {X : fx_Sc} {M M' : fx_M}
theorem ev_l50 {i : Nat} (hi : i < 72) : Ev X 50 0 [fx_f 9, .inl (i : Int)] [] M (some (.inl (M 11 i))) M := r50_0 (ev_isIndex_y (by omega)) (r50_2F (by omega) (by omega) (Ev.res (by congr 1) (r50_3 (by omega))))
theorem ev_l48 {i : Nat} (hi : i < 72) : Ev X 48 0 [fx_f 9, .inl (i : Int)] [] M (some (.inl (M 12 i))) M := r48_0 (ev_isIndex_y (by omega)) (r48_2F (by omega) (by omega) (Ev.res (by congr 1) (r48_3 (by omega))))
theorem ev_l52 {i : Nat} (hi : i < 72) : Ev X 52 0 [fx_f 9, .inl (i : Int)] [] M (some (.inl (M 13 i))) M := r52_0 (ev_isIndex_y (by omega)) (r52_2F (by omega) (by omega) (Ev.res (by congr 1) (r52_3 (by omega))))
theorem ev_l53 {i : Nat} (hi : i < 72) : Ev X 53 0 [fx_f 9, .inl (i : Int)] [] M (some (.inl (M 14 i))) M := r53_0 (ev_isIndex_y (by omega)) (r53_2F (by omega) (by omega) (Ev.res (by congr 1) (r53_3 (by omega))))
theorem ev_l54 {i : Nat} (hi : i < 72) : Ev X 54 0 [fx_f 9, .inl (i : Int)] [] M (some (.inl (M 15 i))) M := r54_0 (ev_isIndex_y (by omega)) (r54_2F (by omega) (by omega) (Ev.res (by congr 1) (r54_3 (by omega))))
theorem ev_l51 {i : Nat} (hi : i < 72) (h : M 16 i = 0 ∨ M 16 i = 1) : Ev X 51 0 [fx_f 9, .inl (i : Int)] [] M (some (.inl (M 16 i))) M := by
  have ei : (i : Int).toNat = i := by omega
  refine r51_0 (ev_isIndex_y (by omega)) (r51_2F (by omega) (by omega) ?_)
  rcases h with h | h
  · rw [h]
    exact r51_3T (by rw [ei, h]; omega) (by rw [ei, h]) r51_10
  · rw [h]
    exact r51_3F (by rw [ei, h]; omega) (by rw [ei, h]; omega) r51_8
theorem ev_l46 {k : Nat} (hk : k < 144) : Ev X 46 0 [fx_f 9, .inl (k : Int)] [] M (some (.inl (M 10 k))) M := r46_0 (ev_isPlace_y (by omega)) (r46_2F (by omega) (by omega) (Ev.res (by congr 1) (r46_3 (by omega))))
theorem ev_l47 {n p : Nat} (hn : M 9 0 = (n : Int)) (h : lOK (M 11) (M 12) (M 14) (M 15) (M 16) n) (hp : p < 6) : Ev X 47 0 [fx_f 9, .inl (p : Int), fx_u, fx_u] [] M (some (.inl (l_in (M 12) p n : Int))) M := by
  refine r47_0 ?_
  have h72 := h.1
  refine Ev.loop n (fun c => [fx_f 9, .inl (p : Int), .inl ((l_in (M 12) p c : Nat) : Int), .inl (c : Int)]) (fun _ => M) (fun c hc k => ?_) (r47_4T (by rw [hn]; omega) (by rw [hn]; omega) r47_19)
  have hb := (h.2 c hc).2.1
  have et : M 12 c = (((M 12 c).toNat : Nat) : Int) := by omega
  have hm := pb_mask (a := (M 12 c).toNat) (c := p) (by omega) (by omega)
  rw [← et] at hm
  have h2 : 2 ^ p < 2 ^ 6 := Nat.pow_lt_pow_right (by omega) hp
  have h3 := Nat.two_pow_pos p
  refine r47_4F (by rw [hn]; omega) (by rw [hn]; omega) (r47_8 (ev_l48 (by omega)) ?_)
  unfold l_in at k ⊢
  simp only [pb_c] at k
  by_cases ht : (M 12 c).toNat.testBit p = true
  · rw [if_pos ht] at hm k
    exact r47_11F (by rw [hm]; omega) (by rw [hm]; omega) (r47_16 k)
  · rw [if_neg ht] at hm k
    exact r47_11T (by rw [hm]; omega) hm (r47_17 k)
theorem ev_l55 {n : Nat} (hn : M 9 0 = (n : Int)) (h : lOK (M 11) (M 12) (M 14) (M 15) (M 16) n) : Ev X 55 0 [fx_f 9, fx_u, fx_u] [] M (some (.inl (l_lp (M 16) n : Int))) M := by
  refine r55_0 ?_
  have h72 := h.1
  refine Ev.loop n (fun c => [fx_f 9, .inl ((l_lp (M 16) c : Nat) : Int), .inl (c : Int)]) (fun _ => M) (fun c hc k => ?_) (r55_4T (by rw [hn]; omega) (by rw [hn]; omega) r55_15)
  have hb := (h.2 c hc).2.2.2.2
  refine r55_4F (by rw [hn]; omega) (by rw [hn]; omega) (r55_8 (ev_l51 (by omega) hb) ?_)
  unfold l_lp at k ⊢
  simp only [pb_c, decide_eq_true_eq] at k
  by_cases ht : M 16 c ≠ 0
  · rw [if_pos ht] at k
    exact r55_11F (by omega) ht (r55_12 k)
  · rw [if_neg ht] at k
    exact r55_11T (by omega) (by omega) (r55_13 k)
theorem ev_l56 {n : Nat} (hn : M 9 0 = (n : Int)) (h : lOK (M 11) (M 12) (M 14) (M 15) (M 16) n) : Ev X 56 0 [fx_f 9, fx_u, fx_u] [] M (some (.inl (l_mx (M 11) n))) M := by
  refine r56_0 ?_
  have h72 := h.1
  refine Ev.loop n (fun c => [fx_f 9, .inl (l_mx (M 11) c), .inl (c : Int)]) (fun _ => M) (fun c hc k => ?_) (r56_4T (by rw [hn]; omega) (by rw [hn]; omega) r56_16)
  have hb := (h.2 c hc).1
  have hb2 := l_mx_b (a := M 11) (n := c) (fun i hi => (h.2 i (by omega)).1)
  exact r56_4F (by rw [hn]; omega) (by rw [hn]; omega) (r56_8 (ev_l50 (by omega)) (r56_12 (by omega) k))
theorem ev_l57 {n : Nat} (hn : M 9 0 = (n : Int)) (h : lOK (M 11) (M 12) (M 14) (M 15) (M 16) n) : Ev X 57 0 [fx_f 9, fx_u, fx_u, fx_u] [] M (some (.inl (l_tb (M 16) (M 14) (M 15) n : Int))) M := by
  refine r57_0 ?_
  have h72 := h.1
  refine Ev.loop1 n (fun c u => [fx_f 9, .inl ((l_tb (M 16) (M 14) (M 15) c : Nat) : Int), .inl (c : Int), u]) (fun _ => M) (fun c hc k u => ?_) (fun u => r57_4T (by rw [hn]; omega) (by rw [hn]; omega) r57_31) fx_u
  have hb := (h.2 c hc).2.2
  refine r57_4F (by rw [hn]; omega) (by rw [hn]; omega) (r57_8 (ev_l51 (by omega) hb.2.2) ?_)
  unfold l_tb at k ⊢
  simp only [pb_c, decide_eq_true_eq] at k
  by_cases h1 : M 16 c ≠ 0
  · rw [if_neg (fun q => h1 q.1)] at k
    exact r57_11T (by omega) h1 (r57_19 (k _))
  · refine r57_11F (by omega) (by omega) (r57_12 (ev_l53 (by omega)) ?_)
    by_cases h2 : 12 ≤ M 14 c
    · rw [if_neg (fun q => by omega)] at k
      exact r57_15T (by omega) h2 (r57_19 (k _))
    · refine r57_15F (by omega) (by omega) (r57_17 (ev_l54 (by omega)) ?_)
      by_cases h3 : M 15 c < 132
      · rw [if_neg (fun q => by omega)] at k
        exact r57_26T (by omega) h3 (r57_29 (k _))
      · rw [if_pos (by omega)] at k
        exact r57_26F (by omega) (by omega) (r57_28 (k _))
end LNQ
/-! both tables hold the same -/
theorem zT_b {H : Nat → Int} {S : Nat → Prop} {m t w : Nat} (h : zT H S m t w) : m ≤ 72 ∧ t < 64 ∧ w < 64 := by
  have := pb_c_le (zb S) 144
  exact ⟨by have := h.1; omega, h.2.1.1, h.2.2.1⟩
theorem zT_un {H : Nat → Int} {S : Nat → Prop} {m t w m' t' w' : Nat} (h : zT H S m t w) (h' : zT H S m' t' w') : m = m' ∧ t = t' ∧ w = w' := ⟨by have := h.1; have := h'.1; omega, zps_un h.2.1 h'.2.1, zps_un h.2.2 h'.2.2⟩
theorem zRes_b {O : Nat → Int} (hz : zr O) {a : Nat} (ha : zP O a) {l g p : Int} (h : zRes O a l g p) : (-6 ≤ l ∧ l < 144) ∧ (-6 ≤ g ∧ g < 144) ∧ (p = 0 ∨ p = 1) := by
  rcases h with ⟨h1, h2, h3, h4⟩ | ⟨u, v, h1, h2, h3, h4⟩
  · omega
  · have := (zc_P hz ha h1.2.1).1
    have := (zc_P hz ha h1.2.2.1).1
    omega
theorem zU_le {O : Nat → Int} {c : Nat} (h : 2 * (zN O c).length ≤ pb_c (zb (zU (zN O c) O)) 144) : (zN O c).length ≤ 72 := by
  have := pb_c_le (zb (zU (zN O c) O)) 144
  omega
theorem cL_ok {O H : Nat → Int} {M : fx_M} {c : Nat} (hz : zr O) (h : cL O H M c) : lOK (M 11) (M 12) (M 14) (M 15) (M 16) (zN O c).length := by
  refine ⟨zU_le h.2.2.2, fun i hi => ?_⟩
  obtain ⟨m, t, w, e1, e2, e3, e4, e5⟩ := h.2.2.1 i _ (List.getElem?_eq_getElem hi)
  have hb := zT_b e4
  have hr := zRes_b hz (zN_in (List.getElem_mem hi)).1 e5
  exact ⟨by omega, by omega, hr⟩
theorem pb_o_bit {g : Nat → Nat} {n b : Nat} : (pb_o g n).testBit b = true ↔ ∃ i, i < n ∧ (g i).testBit b = true := by
  induction n with
  | zero => simp [pb_o]
  | succ n ih =>
    rw [pb_o, Nat.testBit_or, Bool.or_eq_true, ih]
    constructor
    · rintro (⟨i, h1, h2⟩ | h)
      · exact ⟨i, by omega, h2⟩
      · exact ⟨n, by omega, h⟩
    · rintro ⟨i, h1, h2⟩
      by_cases h : i = n
      · subst h; exact Or.inr h2
      · exact Or.inl ⟨i, by omega, h2⟩
theorem zps_ho {H : Nat → Int} {S : Nat → Prop} {t w : Nat} (hS : ∀ k, S k → k < 144) (hH : ∀ p, p < 6 → 0 ≤ H p ∧ H p < 6) (ht : zps S (fun k => k / 24) t) (hw : zps S (zhf H) w) : y_ho H t = w := by
  refine Nat.eq_of_testBit_eq fun b => ?_
  rw [Bool.eq_iff_iff, hw.2]
  unfold y_ho
  rw [pb_o_bit]
  constructor
  · rintro ⟨p, h1, h2⟩
    by_cases hp : t.testBit p = true
    · rw [if_pos hp, Nat.testBit_two_pow, decide_eq_true_eq] at h2
      obtain ⟨k, h3, h4⟩ := (ht.2 p).mp hp
      exact ⟨k, h3, by unfold zhf; rw [show k / 24 = p from h4]; exact h2⟩
    · rw [if_neg hp, Nat.zero_testBit] at h2
      cases h2
  · rintro ⟨k, h1, h2⟩
    have := hS k h1
    refine ⟨k / 24, by omega, ?_⟩
    rw [if_pos ((ht.2 (k / 24)).mpr ⟨k, h1, rfl⟩), Nat.testBit_two_pow, decide_eq_true_eq]
    exact h2

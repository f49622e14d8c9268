/-! more of what is asked of a strip: hands, crossing, sliding -/
def z_ar (e : Int) : Int := if e < 12 then e else 35 - e
def z_bt (e o t : Int) : Bool := decide ((if z_ar t < z_ar o then z_ar t else z_ar o) < z_ar e ∧ z_ar e < (if z_ar o < z_ar t then z_ar t else z_ar o))
/-- strokes that cross the one of the end k; O: the other ends, -1: none -/
def z_cr (O : Nat → Int) (k : Nat) : Nat := pb_c (fun e => decide ((e : Int) < O (24 * (k / 24) + e)) && (z_bt e ((k % 24 : Nat) : Int) (O k) != z_bt (O (24 * (k / 24) + e)) ((k % 24 : Nat) : Int) (O k))) 24
def z_prs (O : Nat → Int) (p : Nat) : Nat := pb_n (fun e => if (e : Int) < O (24 * p + e) then z_cr O (24 * p + e) else 0) 24 / 2
def pb_all (Q : Nat → Bool) : Nat → Bool
  | 0 => true
  | n + 1 => pb_all Q n && Q n
theorem pb_all_iff {Q : Nat → Bool} {n : Nat} : pb_all Q n = true ↔ ∀ i, i < n → Q i = true := by
  induction n with
  | zero => simp [pb_all]
  | succ n ih =>
    rw [pb_all, Bool.and_eq_true, ih]
    constructor
    · intro h i hi
      by_cases hn : i = n
      · rw [hn]; exact h.2
      · exact h.1 i (by omega)
    · intro h
      exact ⟨fun i hi => h i (by omega), h n (by omega)⟩
theorem pb_all_no {Q : Nat → Bool} {n : Nat} (h : pb_all Q n = false) : ∃ b, b < n ∧ Q b = false ∧ ∀ i, i < b → Q i = true := by
  induction n with
  | zero => cases h
  | succ n ih =>
    rw [pb_all, Bool.and_eq_false_iff] at h
    cases ha : pb_all Q n with
    | false =>
      obtain ⟨b, h1, h2, h3⟩ := ih ha
      exact ⟨b, by omega, h2, h3⟩
    | true =>
      rcases h with h | h
      · rw [ha] at h; cases h
      · exact ⟨n, by omega, h, pb_all_iff.mp ha⟩
/-- the panel's strokes can be slid by x -/
def z_can (P : Nat → Bool) (p : Nat) (x : Int) : Bool := pb_all (fun c => !(P (24 * p + c) || P (24 * p + 12 + c)) || (decide (0 ≤ (c : Int) + x) && decide ((c : Int) + x < 12))) 12
def z_free (P : Nat → Bool) : Nat := pb_c (fun c => P c) 12 + pb_c (fun c => P (132 + c)) 12
section EVU
variable {X : fx_Sc} {M M' : fx_M} {j i a : Nat} {ls ls' st : List fx_V} {r : Option fx_V}
theorem Ev.loop1 (N : Nat) (L : Nat → fx_V → List fx_V) (Mm : Nat → fx_M) (hs : ∀ c, c < N → (∀ v, Ev X j i (L (c + 1) v) [] (Mm (c + 1)) r M') → ∀ v, Ev X j i (L c v) [] (Mm c) r M') (hx : ∀ v, Ev X j i (L N v) [] (Mm N) r M') (v : fx_V) : Ev X j i (L 0 v) [] (Mm 0) r M' := by
  have key : ∀ n c, c + n = N → ∀ v, Ev X j i (L c v) [] (Mm c) r M' := by
    intro n
    induction n with
    | zero => intro c hc; rw [show c = N by omega]; exact hx
    | succ n ih => intro c hc; exact hs c (by omega) (ih (c + 1) (by omega))
  exact key N 0 (by omega) v
theorem Ev.loop2 (N : Nat) (L : Nat → fx_V → fx_V → List fx_V) (Mm : Nat → fx_M) (hs : ∀ c, c < N → (∀ v w, Ev X j i (L (c + 1) v w) [] (Mm (c + 1)) r M') → ∀ v w, Ev X j i (L c v w) [] (Mm c) r M') (hx : ∀ v w, Ev X j i (L N v w) [] (Mm N) r M') (v w : fx_V) : Ev X j i (L 0 v w) [] (Mm 0) r M' := by
  have key : ∀ n c, c + n = N → ∀ v w, Ev X j i (L c v w) [] (Mm c) r M' := by
    intro n
    induction n with
    | zero => intro c hc; rw [show c = N by omega]; exact hx
    | succ n ih => intro c hc; exact hs c (by omega) (ih (c + 1) (by omega))
  exact key N 0 (by omega) v w
theorem ev_looseEndsIn {p : Nat} (S : pS M a) (hp : p < 6) : Ev X 104 0 [fx_f a, .inl (p : Int), fx_u, fx_u] [] M (some (.inl ((pb_c (fun e => decide (z_how (ph M a) (24 * p + e) = 2)) 24 : Nat) : Int))) M := by
  refine r104_0 ?_
  refine Ev.loop 24 (fun c => [fx_f a, .inl (p : Int), .inl ((pb_c (fun e => decide (z_how (ph M a) (24 * p + e) = 2)) c : Nat) : Int), .inl (c : Int)]) (fun _ => M) (fun c hc k => ?_) (r104_4T (by omega) (by omega) r104_17)
  refine r104_4F (by omega) (by omega) (r104_7 ev_placeOf (r104_11 S.1 (ev_howEndIs S (by omega)) ?_))
  have hb : 0 ≤ z_how (ph M a) (24 * p + c) ∧ z_how (ph M a) (24 * p + c) ≤ 3 := by unfold z_how; split <;> (try split) <;> (try split) <;> omega
  simp only [pb_c] at k
  by_cases h : z_how (ph M a) (24 * p + c) = 2
  · simp only [h, decide_true, if_true] at k
    exact r104_12F (by omega) h (r104_14 k)
  · simp only [h, decide_false, Bool.false_eq_true, if_false] at k
    exact r104_12T (by omega) h (r104_15 k)
theorem ev_strokesDown {p : Nat} (S : pS M a) (hp : p < 6) : Ev X 105 0 [fx_f a, .inl (p : Int), fx_u, fx_u] [] M (some (.inl ((pb_c (fun c => decide (12 ≤ M (a + 1) (24 * p + c))) 12 : Nat) : Int))) M := by
  refine r105_0 ?_
  refine Ev.loop 12 (fun c => [fx_f a, .inl (p : Int), .inl ((pb_c (fun c => decide (12 ≤ M (a + 1) (24 * p + c))) c : Nat) : Int), .inl (c : Int)]) (fun _ => M) (fun c hc k => ?_) (r105_4T (by omega) (by omega) r105_17)
  refine r105_4F (by omega) (by omega) (r105_7 ev_placeOf (r105_11 S.1 (ev_otherEnd S (by omega)) ?_))
  have hb := S.2.1 (24 * p + c) (by omega)
  simp only [pb_c] at k
  by_cases h : 12 ≤ M (a + 1) (24 * p + c)
  · simp only [h, decide_true, if_true] at k
    exact r105_12F (by omega) h (r105_14 k)
  · simp only [h, decide_false, Bool.false_eq_true, if_false] at k
    exact r105_12T (by omega) (by omega) (r105_15 k)
theorem ev_panelsOf {h : Int} (S : pS M a) (hh : pR h) : Ev X 107 0 [fx_f a, .inl h, fx_u, fx_u] [] M (some (.inl ((pb_s (fun p => decide (M (a + 2) p = h)) 6 : Nat) : Int))) M := by
  refine r107_0 ?_
  refine Ev.loop 6 (fun c => [fx_f a, .inl h, .inl ((pb_s (fun p => decide (M (a + 2) p = h)) c : Nat) : Int), .inl (c : Int)]) (fun _ => M) (fun c hc k => ?_) (r107_4T (by omega) (by omega) r107_21)
  have hb : 0 ≤ M (a + 2) (c : Int).toNat ∧ M (a + 2) (c : Int).toNat < 6 := S.2.2 c hc
  refine r107_4F (by omega) (by omega) ?_
  have hlt := pb_s_lt (fun p => decide (M (a + 2) p = h)) c
  have h2 : 2 ^ c ≤ 2 ^ 6 := Nat.pow_le_pow_right (by omega) (by omega)
  simp only [pb_s] at k
  by_cases he : M (a + 2) c = h
  · simp only [he, decide_true, if_true] at k
    refine r107_7F S.1 ⟨by omega, by omega, hh⟩ he (r107_13 ?_)
    rw [pb_shl1 c (by omega), pb_or (by omega) (by omega)]
    exact k
  · simp only [he, decide_false, Bool.false_eq_true, if_false, Nat.or_zero] at k
    exact r107_7T S.1 ⟨by omega, by omega, hh⟩ he (r107_19 k)
theorem ev_strokesOf {h : Int} (S : pS M a) (hh : pR h) : Ev X 108 0 [fx_f a, .inl h, fx_u, fx_u] [] M (some (.inl ((pb_n (fun p => if M (a + 2) p = h then z_str (ph M a) p else 0) 6 : Nat) : Int))) M := by
  refine r108_0 ?_
  refine Ev.loop 6 (fun c => [fx_f a, .inl h, .inl ((pb_n (fun p => if M (a + 2) p = h then z_str (ph M a) p else 0) c : Nat) : Int), .inl (c : Int)]) (fun _ => M) (fun c hc k => ?_) (r108_4T (by omega) (by omega) r108_21)
  have hb : 0 ≤ M (a + 2) (c : Int).toNat ∧ M (a + 2) (c : Int).toNat < 6 := S.2.2 c hc
  refine r108_4F (by omega) (by omega) ?_
  simp only [pb_n] at k
  by_cases he : M (a + 2) c = h
  · rw [if_pos he] at k
    exact r108_7F S.1 ⟨by omega, by omega, hh⟩ he (r108_13 S.1 (ev_strokesIn S hc) (r108_17 k))
  · rw [if_neg he] at k
    exact r108_7T S.1 ⟨by omega, by omega, hh⟩ he (r108_19 k)
theorem ev_missedOf {h : Int} (S : pS M a) (hh : pR h) : Ev X 109 0 [fx_f a, .inl h, fx_u, fx_u] [] M (some (.inl ((pb_n (fun f => if M (a + 2) (f + 1) = h then z_c0 (ph M a) f else 0) 5 : Nat) : Int))) M := by
  refine r109_0 ?_
  refine Ev.loop 5 (fun c => [fx_f a, .inl h, .inl ((pb_n (fun f => if M (a + 2) (f + 1) = h then z_c0 (ph M a) f else 0) c : Nat) : Int), .inl (c : Int)]) (fun _ => M) (fun c hc k => ?_) (r109_4T (by omega) (by omega) r109_23)
  have hb := S.2.2 (c + 1) (by omega)
  refine r109_4F (by omega) (by omega) (r109_7 S.1 (ev_handOf (p := c + 1) S (by omega)) ?_)
  simp only [pb_n] at k
  by_cases he : M (a + 2) (c + 1) = h
  · rw [if_pos he] at k
    exact r109_12F ⟨by omega, hh⟩ he (r109_14 S.1 (ev_missedAt S hc) (r109_18 ev_bitCount (r109_19 k)))
  · rw [if_neg he] at k
    exact r109_12T ⟨by omega, hh⟩ he (r109_21 k)
theorem ev_unmarkedOf {h : Int} (S : pS M a) (hh : pR h) : Ev X 110 0 [fx_f a, .inl h, fx_u, fx_u] [] M (some (.inl ((pb_n (fun f => if M (a + 2) (f + 1) = h then z_c1 (ph M a) f else 0) 5 : Nat) : Int))) M := by
  refine r110_0 ?_
  refine Ev.loop 5 (fun c => [fx_f a, .inl h, .inl ((pb_n (fun f => if M (a + 2) (f + 1) = h then z_c1 (ph M a) f else 0) c : Nat) : Int), .inl (c : Int)]) (fun _ => M) (fun c hc k => ?_) (r110_4T (by omega) (by omega) r110_23)
  have hb := S.2.2 (c + 1) (by omega)
  refine r110_4F (by omega) (by omega) (r110_7 S.1 (ev_handOf (p := c + 1) S (by omega)) ?_)
  simp only [pb_n] at k
  by_cases he : M (a + 2) (c + 1) = h
  · rw [if_pos he] at k
    exact r110_12F ⟨by omega, hh⟩ he (r110_14 S.1 (ev_unmarkedAt S hc) (r110_18 ev_bitCount (r110_19 k)))
  · rw [if_neg he] at k
    exact r110_12T ⟨by omega, hh⟩ he (r110_21 k)
theorem ev_strokes (S : pS M a) : Ev X 111 0 [fx_f a, fx_u, fx_u] [] M (some (.inl ((pb_n (z_str (ph M a)) 6 : Nat) : Int))) M := by
  refine r111_0 ?_
  refine Ev.loop 6 (fun c => [fx_f a, .inl ((pb_n (z_str (ph M a)) c : Nat) : Int), .inl (c : Int)]) (fun _ => M) (fun c hc k => ?_) (r111_4T (by omega) (by omega) r111_15)
  exact r111_4F (by omega) (by omega) (r111_7 S.1 (ev_strokesIn S hc) (r111_11 k))
theorem ev_freeEnds (S : pS M a) : Ev X 112 0 [fx_f a] [] M (some (.inl (z_free (ph M a) : Int))) M := by
  refine r112_0 S.1 (ev_edgeSet (e := 0) S (by omega)) (r112_3 ev_bitE (r112_4 S.1 (ev_edgeSet (e := 11) S (by omega)) (r112_7 ev_bitE (Ev.res ?_ r112_8))))
  unfold z_free
  simp only [Nat.mul_zero, Nat.zero_add]
  push_cast
  rfl
theorem ev_around {e : Int} (he : -1 ≤ e ∧ e < 24) : Ev X 102 0 [.inl e] [] M (some (.inl (z_ar e))) M := by
  unfold z_ar
  by_cases h : e < 12
  · rw [if_pos h]
    exact r102_0F (by omega) h r102_3
  · rw [if_neg h]
    exact r102_0T (by omega) (by omega) (Ev.res (by omega) r102_5)
theorem z_ar_rg {e : Int} (he : -1 ≤ e ∧ e < 24) : -1 ≤ z_ar e ∧ z_ar e < 24 := by
  unfold z_ar
  split <;> omega
theorem ev_isBetween {e o t : Int} (he : -1 ≤ e ∧ e < 24) (ho : -1 ≤ o ∧ o < 24) (ht : -1 ≤ t ∧ t < 24) : Ev X 101 0 [.inl e, .inl o, .inl t, fx_u, fx_u, fx_u] [] M (some (.inl (if z_bt e o t = true then 1 else 0))) M := by
  have h1 := z_ar_rg he
  have h2 := z_ar_rg ho
  have h3 := z_ar_rg ht
  refine r101_0 (ev_around he) (r101_2 (ev_around ho) (r101_5 (ev_around ht) (r101_7 ⟨by omega, by omega⟩ (ev_around ho) (r101_11 (ev_around ht) ?_))))
  have h4 : -1 ≤ (if z_ar t < z_ar o then z_ar t else z_ar o) ∧ (if z_ar t < z_ar o then z_ar t else z_ar o) < 24 := by split <;> omega
  have h5 : -1 ≤ (if z_ar o < z_ar t then z_ar t else z_ar o) ∧ (if z_ar o < z_ar t then z_ar t else z_ar o) < 24 := by split <;> omega
  by_cases c1 : (if z_ar t < z_ar o then z_ar t else z_ar o) < z_ar e
  · refine r101_13F ⟨by omega, by omega, by omega, by omega⟩ c1 ?_
    by_cases c2 : z_ar e < (if z_ar o < z_ar t then z_ar t else z_ar o)
    · have hz : z_bt e o t = true := decide_eq_true ⟨c1, c2⟩
      rw [if_pos hz]
      exact r101_18F ⟨by omega, by omega⟩ c2 r101_21
    · have hz : ¬ z_bt e o t = true := fun q => c2 (of_decide_eq_true q).2
      rw [if_neg hz]
      exact r101_18T ⟨by omega, by omega⟩ (Int.not_lt.mp c2) r101_23
  · have hz : ¬ z_bt e o t = true := fun q => c1 (of_decide_eq_true q).1
    rw [if_neg hz]
    exact r101_13T ⟨by omega, by omega, by omega, by omega⟩ (Int.not_lt.mp c1) r101_23
theorem ev_crossingsOf {k : Nat} (S : pS M a) (hk : k < 144) : Ev X 100 0 [fx_f a, .inl (k : Int), fx_u, fx_u, fx_u, fx_u, fx_u, fx_u, fx_u] [] M (some (.inl (z_cr (M (a + 1)) k : Int))) M := by
  have hO := S.2.1
  have hkk := hO k hk
  refine r100_0 (ev_panelOf hk) (r100_2 S.1 (ev_otherEnd S hk) (r100_10 ?_))
  have hr : fx_rem (k : Int) 24 = ((k % 24 : Nat) : Int) := pb_rem (d := 24) (by omega) (by omega) (by omega)
  rw [hr]
  refine Ev.loop2 24 (fun c v w => [fx_f a, .inl (k : Int), .inl ((k / 24 : Nat) : Int), .inl ((k % 24 : Nat) : Int), .inl (M (a + 1) k), .inl ((pb_c (fun e => decide ((e : Int) < M (a + 1) (24 * (k / 24) + e)) && (z_bt e ((k % 24 : Nat) : Int) (M (a + 1) k) != z_bt (M (a + 1) (24 * (k / 24) + e)) ((k % 24 : Nat) : Int) (M (a + 1) k))) c : Nat) : Int), .inl (c : Int), v, w]) (fun _ => M) (fun c hc kk v w => ?_) (fun v w => r100_15T (by omega) (by omega) r100_45) fx_u fx_u
  have hb := hO (24 * (k / 24) + c) (by omega)
  refine r100_15F (by omega) (by omega) (r100_18 ev_placeOf (r100_22 S.1 (ev_otherEnd S (by omega)) ?_))
  simp only [pb_c] at kk
  by_cases h1 : (c : Int) < M (a + 1) (24 * (k / 24) + c)
  · simp only [h1, decide_true, Bool.true_and] at kk
    refine r100_23F ⟨by omega, by omega⟩ h1 (r100_27 (ev_isBetween (by omega) (by omega) hkk) (r100_37 (ev_isBetween hb (by omega) hkk) ?_))
    cases hA : z_bt (c : Int) ((k % 24 : Nat) : Int) (M (a + 1) k) <;> cases hB : z_bt (M (a + 1) (24 * (k / 24) + c)) ((k % 24 : Nat) : Int) (M (a + 1) k) <;> simp only [hA, hB, Bool.false_eq_true, if_true, if_false, bne_self_eq_false] at kk ⊢
    · exact r100_41T ⟨by omega, by omega⟩ rfl (r100_43 (kk _ _))
    · exact r100_41F ⟨by omega, by omega⟩ (by omega) (r100_42 (kk _ _))
    · exact r100_41F ⟨by omega, by omega⟩ (by omega) (r100_42 (kk _ _))
    · exact r100_41T ⟨by omega, by omega⟩ rfl (r100_43 (kk _ _))
  · simp only [h1, decide_false, Bool.false_and, Bool.false_eq_true, if_false] at kk
    exact r100_23T ⟨by omega, by omega⟩ (by omega) (r100_29 (kk _ _))
theorem ev_pairsIn {p : Nat} (S : pS M a) (hp : p < 6) : Ev X 103 0 [fx_f a, .inl (p : Int), fx_u, fx_u] [] M (some (.inl (z_prs (M (a + 1)) p : Int))) M := by
  refine r103_0 ?_
  have hO := S.2.1
  have hle : pb_n (fun e => if (e : Int) < M (a + 1) (24 * p + e) then z_cr (M (a + 1)) (24 * p + e) else 0) 24 ≤ 24 * 24 := pb_n_le fun i _ => by
    split
    · exact pb_c_le _ 24
    · omega
  refine Ev.loop 24 (fun c => [fx_f a, .inl (p : Int), .inl ((pb_n (fun e => if (e : Int) < M (a + 1) (24 * p + e) then z_cr (M (a + 1)) (24 * p + e) else 0) c : Nat) : Int), .inl (c : Int)]) (fun _ => M) (fun c hc k => ?_) (r103_4T (by omega) (by omega) (Ev.res (pb_div (d := 2) (by omega) (by omega) (by omega)) r103_24))
  have hb := hO (24 * p + c) (by omega)
  refine r103_4F (by omega) (by omega) (r103_7 ev_placeOf (r103_12 S.1 (ev_otherEnd S (by omega)) ?_))
  simp only [pb_n] at k
  by_cases h1 : (c : Int) < M (a + 1) (24 * p + c)
  · rw [if_pos h1] at k
    exact r103_13F ⟨by omega, by omega⟩ h1 (r103_14 ev_placeOf (r103_19 S.1 (ev_crossingsOf S (by omega)) (r103_20 k)))
  · rw [if_neg h1] at k
    exact r103_13T ⟨by omega, by omega⟩ (by omega) (r103_22 k)
theorem ev_pairs (S : pS M a) : Ev X 113 0 [fx_f a, fx_u, fx_u] [] M (some (.inl ((pb_n (z_prs (M (a + 1))) 6 : Nat) : Int))) M := by
  refine r113_0 ?_
  refine Ev.loop 6 (fun c => [fx_f a, .inl ((pb_n (z_prs (M (a + 1))) c : Nat) : Int), .inl (c : Int)]) (fun _ => M) (fun c hc k => ?_) (r113_4T (by omega) (by omega) r113_15)
  exact r113_4F (by omega) (by omega) (r113_7 S.1 (ev_pairsIn S hc) (r113_11 k))
theorem z_can_set (P : Nat → Bool) (p : Nat) : z_edge P (2 * p) ||| z_edge P (2 * p + 1) = pb_s (fun c => P (24 * p + c) || P (24 * p + 12 + c)) 12 := by
  unfold z_edge
  rw [pb_s_or]
  exact pb_s_ext fun i _ => by rw [show 12 * (2 * p) + i = 24 * p + i by omega, show 12 * (2 * p + 1) + i = 24 * p + 12 + i by omega]
theorem ev_canShift {p : Nat} {x : Int} (S : pS M a) (hp : p < 6) (hx : -12 < x ∧ x < 12) : Ev X 86 0 [fx_f a, .inl (p : Int), .inl x, fx_u, fx_u, fx_u] [] M (some (.inl (if z_can (ph M a) p x = true then 1 else 0))) M := by
  have h1 := z_edge_lt (ph M a) (2 * p)
  have h2 := z_edge_lt (ph M a) (2 * p + 1)
  refine r86_0 ev_upper (r86_3 S.1 (ev_edgeSet S (by omega)) (r86_4 ev_lower (r86_7 S.1 (ev_edgeSet S (by omega)) (r86_8 ?_))))
  rw [pb_or (by omega) (by omega), z_can_set]
  have hs := pb_s_lt (fun c => ph M a (24 * p + c) || ph M a (24 * p + 12 + c)) 12
  have bit : ∀ c : Nat, c < 12 → fx_and ((pb_s (fun c => ph M a (24 * p + c) || ph M a (24 * p + 12 + c)) 12 : Nat) : Int) (fx_shl 1 (c : Int)) = if (ph M a (24 * p + c) || ph M a (24 * p + 12 + c)) = true then ((2 ^ c : Nat) : Int) else 0 := by
    intro c hc
    rw [pb_mask (by omega) (by omega), pb_s_bit]
    simp [hc]
  have pw : ∀ c : Nat, c < 12 → 0 < 2 ^ c ∧ 2 ^ c ≤ 2 ^ 12 := fun c hc => ⟨Nat.two_pow_pos c, Nat.pow_le_pow_right (by omega) (by omega)⟩
  have good : ∀ c : Nat, c < 12 → (!(ph M a (24 * p + c) || ph M a (24 * p + 12 + c)) || (decide (0 ≤ (c : Int) + x) && decide ((c : Int) + x < 12))) = true → ∀ {b : Nat} {r : Option fx_V} {M' : fx_M}, (∀ v, Ev X 86 12 [fx_f a, .inl (p : Int), .inl x, .inl (b : Int), .inl (((c + 1 : Nat)) : Int), v] [] M r M') → b = pb_s (fun c => ph M a (24 * p + c) || ph M a (24 * p + 12 + c)) 12 → ∀ v, Ev X 86 12 [fx_f a, .inl (p : Int), .inl x, .inl (b : Int), .inl (c : Int), v] [] M r M' := by
    intro c hc hg b r M' k hb v
    have hpw := pw c hc
    refine r86_12F (by omega) (by omega) ?_
    by_cases c1 : 0 ≤ (c : Int) + x
    · by_cases c2 : (c : Int) + x < 12
      · exact r86_15F (by omega) c1 (r86_19T (by omega) c2 (r86_26 (k _)))
      · have hno : (ph M a (24 * p + c) || ph M a (24 * p + 12 + c)) = false := by simpa [c1, c2] using hg
        have e := bit c hc
        rw [← hb, hno] at e
        simp only [Bool.false_eq_true, if_false] at e
        exact r86_15F (by omega) c1 (r86_19F (by omega) (by omega) (r86_24T (by rw [e]; omega) e (r86_38 (k _))))
    · have hno : (ph M a (24 * p + c) || ph M a (24 * p + 12 + c)) = false := by simpa [c1] using hg
      have e := bit c hc
      rw [← hb, hno] at e
      simp only [Bool.false_eq_true, if_false] at e
      exact r86_15T (by omega) (by omega) (r86_24T (by rw [e]; omega) e (r86_38 (k _)))
  cases hz : z_can (ph M a) p x with
  | true =>
    simp only [if_true]
    have hall := pb_all_iff.mp hz
    exact Ev.loop1 12 (fun c v => [fx_f a, .inl (p : Int), .inl x, .inl ((pb_s (fun c => ph M a (24 * p + c) || ph M a (24 * p + 12 + c)) 12 : Nat) : Int), .inl (c : Int), v]) (fun _ => M) (fun c hc k v => good c hc (hall c hc) k rfl v) (fun v => r86_12T (by omega) (by omega) r86_40) fx_u
  | false =>
    simp only [Bool.false_eq_true, if_false]
    obtain ⟨b, hb, hQ, hall⟩ := pb_all_no hz
    refine Ev.loop1 b (fun c v => [fx_f a, .inl (p : Int), .inl x, .inl ((pb_s (fun c => ph M a (24 * p + c) || ph M a (24 * p + 12 + c)) 12 : Nat) : Int), .inl (c : Int), v]) (fun _ => M) (fun c hc k v => good c (by omega) (hall c hc) k rfl v) (fun v => ?_) fx_u
    have hpw := pw b hb
    have hyes : (ph M a (24 * p + b) || ph M a (24 * p + 12 + b)) = true := by
      cases hh : (ph M a (24 * p + b) || ph M a (24 * p + 12 + b)) with
      | true => rfl
      | false => rw [hh] at hQ; simp at hQ
    have e := bit b hb
    rw [hyes] at e
    simp only [if_true] at e
    refine r86_12F (by omega) (by omega) ?_
    by_cases c1 : 0 ≤ (b : Int) + x
    · by_cases c2 : (b : Int) + x < 12
      · simp [hyes, c1, c2] at hQ
      · exact r86_15F (by omega) c1 (r86_19F (by omega) (by omega) (r86_24F (by rw [e]; omega) (by rw [e]; omega) r86_36))
    · exact r86_15T (by omega) (by omega) (r86_24F (by rw [e]; omega) (by rw [e]; omega) r86_36)
end EVU

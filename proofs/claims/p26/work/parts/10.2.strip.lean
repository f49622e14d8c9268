/-! what is asked of a strip -/
def pb_n (g : Nat → Nat) : Nat → Nat
  | 0 => 0
  | n + 1 => pb_n g n + g n
theorem pb_n_ext {g h : Nat → Nat} {n : Nat} (e : ∀ i, i < n → g i = h i) : pb_n g n = pb_n h n := by
  induction n with
  | zero => rfl
  | succ n ih => rw [pb_n, pb_n, ih (fun i hi => e i (by omega)), e n (by omega)]
theorem pb_n_le {g : Nat → Nat} {n b : Nat} (h : ∀ i, i < n → g i ≤ b) : pb_n g n ≤ n * b := by
  induction n with
  | zero => simp [pb_n]
  | succ n ih =>
    have h1 := ih (fun i hi => h i (by omega))
    have h2 := h n (by omega)
    rw [pb_n, Nat.succ_mul]
    omega
/-- the strip at a holds ends and hands -/
def pS (M : fx_M) (a : Nat) : Prop := fd_isS a ∧ (∀ k, k < 144 → -1 ≤ M (a + 1) k ∧ M (a + 1) k < 24) ∧ (∀ k, k < 6 → 0 ≤ M (a + 2) k ∧ M (a + 2) k < 6)
def ph (M : fx_M) (a k : Nat) : Bool := decide (M (a + 1) k ≠ -1)
def z_edge (P : Nat → Bool) (e : Nat) : Nat := pb_s (fun c => P (12 * e + c)) 12
theorem z_edge_lt (P : Nat → Bool) (e : Nat) : z_edge P e < 4096 := pb_s_lt _ 12
def z_str (P : Nat → Bool) (p : Nat) : Nat := pb_c (fun e => P (24 * p + e)) 24 / 2
/-- ends at a fold that don't meet -/
def z_lf (P : Nat → Bool) (f : Nat) : Nat := pb_c (fun c => P (24 * f + 12 + c) != P (24 * f + 24 + c)) 12
def z_loose (P : Nat → Bool) : Nat := pb_n (z_lf P) 5
/-- faults of the kind 0 and 1 at a fold -/
def z_f0 (P : Nat → Bool) (f : Nat) : Nat := pb_s (fun c => P (24 * f + 12 + c) && !P (24 * f + 24 + c)) 12
def z_f1 (P : Nat → Bool) (f : Nat) : Nat := pb_s (fun c => P (24 * f + 24 + c) && !P (24 * f + 12 + c)) 12
def z_c0 (P : Nat → Bool) (f : Nat) : Nat := pb_c (fun c => P (24 * f + 12 + c) && !P (24 * f + 24 + c)) 12
def z_c1 (P : Nat → Bool) (f : Nat) : Nat := pb_c (fun c => P (24 * f + 24 + c) && !P (24 * f + 12 + c)) 12
section EVT
variable {X : fx_Sc} {M M' : fx_M} {j i a : Nat} {ls ls' st : List fx_V} {r : Option fx_V}
theorem Ev.loop (N : Nat) (L : Nat → List fx_V) (Mm : Nat → fx_M) (hs : ∀ c, c < N → Ev X j i (L (c + 1)) [] (Mm (c + 1)) r M' → Ev X j i (L c) [] (Mm c) r M') (hx : Ev X j i (L N) [] (Mm N) r M') : Ev X j i (L 0) [] (Mm 0) r M' := by
  have key : ∀ n c, c + n = N → Ev X j i (L c) [] (Mm c) r M' := by
    intro n
    induction n with
    | zero => intro c hc; rw [show c = N by omega]; exact hx
    | succ n ih => intro c hc; exact hs c (by omega) (ih (c + 1) (by omega))
  exact key N 0 (by omega)
theorem ev_has {x : Int} (S : pS M a) (hr : pR x) : Ev X 83 0 [fx_f a, .inl x] [] M (some (.inl (if (0 ≤ x ∧ x < 144) ∧ ph M a x.toNat = true then 1 else 0))) M := by
  obtain ⟨ha, hO, -⟩ := S
  by_cases h : 0 ≤ x ∧ x < 144
  · refine r83_0 (ev_isPlace_y h) (r83_2F (by omega) (by omega) ?_)
    have hb := hO x.toNat (by omega)
    by_cases hp : M (a + 1) x.toNat = -1
    · rw [if_neg (by simp [ph, hp])]
      exact r83_3T ha ⟨h, by omega⟩ hp r83_11
    · rw [if_pos ⟨h, by simp [ph, hp]⟩]
      exact r83_3F ha ⟨h, by omega⟩ hp r83_9
  · rw [if_neg (fun q => h q.1)]
    exact r83_0 (ev_isPlace_n hr (by omega)) (r83_2T (by omega) rfl r83_11)
theorem ev_hasN {k : Nat} (S : pS M a) (hk : k < 144) : Ev X 83 0 [fx_f a, .inl (k : Int)] [] M (some (.inl (if ph M a k = true then 1 else 0))) M := by
  refine Ev.res ?_ (ev_has S (by constructor <;> omega))
  have e : (k : Int).toNat = k := by omega
  rw [e]
  by_cases hp : ph M a k = true
  · rw [if_pos ⟨by omega, hp⟩, if_pos hp]
  · rw [if_neg (fun q => hp q.2), if_neg hp]
theorem ev_otherEnd {k : Nat} (S : pS M a) (hk : k < 144) : Ev X 84 0 [fx_f a, .inl (k : Int)] [] M (some (.inl (M (a + 1) k))) M :=
  r84_0 (ev_isPlace_y (by omega)) (r84_2F (by omega) (by omega) (Ev.res (by congr 1) (r84_3 S.1 (by omega))))
theorem ev_edgeSet {e : Nat} (S : pS M a) (he : e < 12) : Ev X 82 0 [fx_f a, .inl (e : Int), fx_u, fx_u] [] M (some (.inl (z_edge (ph M a) e : Int))) M := by
  refine r82_0 ?_
  refine Ev.loop 12 (fun c => [fx_f a, .inl (e : Int), .inl ((pb_s (fun c => ph M a (12 * e + c)) c : Nat) : Int), .inl (c : Int)]) (fun _ => M) (fun c hc k => ?_) (r82_4T (by omega) (by omega) r82_23)
  have e1 : ((e : Int) * 12 + c) = ((12 * e + c : Nat) : Int) := by push_cast; omega
  refine r82_4F (by omega) (by omega) (r82_7 S.1 (by rw [e1]; exact ev_hasN S (by omega)) ?_)
  have hlt := pb_s_lt (fun c => ph M a (12 * e + c)) c
  have h2 : 2 ^ c ≤ 2 ^ 12 := Nat.pow_le_pow_right (by omega) (by omega)
  by_cases hp : ph M a (12 * e + c) = true
  · rw [if_pos hp]
    refine r82_14F (by omega) (by omega) (r82_15 ?_)
    rw [pb_shl1 c (by omega), pb_or (by omega) (by omega)]
    have e2 : pb_s (fun c => ph M a (12 * e + c)) (c + 1) = pb_s (fun c => ph M a (12 * e + c)) c ||| 2 ^ c := by rw [pb_s, if_pos hp]
    rw [← e2]
    exact k
  · rw [if_neg hp]
    refine r82_14T (by omega) rfl (r82_21 ?_)
    have e2 : pb_s (fun c => ph M a (12 * e + c)) (c + 1) = pb_s (fun c => ph M a (12 * e + c)) c := by rw [pb_s, if_neg hp, Nat.or_zero]
    rw [e2] at k
    exact k
theorem ev_lower {p : Nat} : Ev X 7 0 [.inl (p : Int)] [] M (some (.inl ((2 * p + 1 : Nat) : Int))) M := Ev.res (by push_cast; rfl) r7_0
theorem ev_upper {p : Nat} : Ev X 5 0 [.inl (p : Int)] [] M (some (.inl ((2 * p : Nat) : Int))) M := Ev.res (by push_cast; rfl) r5_0
theorem ev_placeOf {p e : Nat} : Ev X 3 0 [.inl (p : Int), .inl (e : Int)] [] M (some (.inl ((24 * p + e : Nat) : Int))) M := Ev.res (by push_cast; omega) r3_0
theorem ev_marksAt {f : Nat} (S : pS M a) (hf : f < 6) : Ev X 90 0 [fx_f a, .inl (f : Int)] [] M (some (.inl (z_edge (ph M a) (2 * f + 1) : Int))) M := r90_0 ev_lower (r90_3 S.1 (ev_edgeSet S (by omega)) r90_4)
theorem ev_startsAt {f : Nat} (S : pS M a) (hf : f < 5) : Ev X 91 0 [fx_f a, .inl (f : Int)] [] M (some (.inl (z_edge (ph M a) (2 * (f + 1)) : Int))) M := r91_0 (ev_upper (p := f + 1)) (r91_5 S.1 (ev_edgeSet S (by omega)) r91_6)
theorem ev_bitE {P : Nat → Bool} {e : Nat} : Ev X 182 0 [.inl ((z_edge P e : Nat) : Int)] [] M (some (.inl ((pb_c (fun c => P (12 * e + c)) 12 : Nat) : Int))) M := ev_bitCount
theorem z_str_eq (P : Nat → Bool) (p : Nat) : (pb_c (fun c => P (12 * (2 * p) + c)) 12 + pb_c (fun c => P (12 * (2 * p + 1) + c)) 12) / 2 = z_str P p := by
  unfold z_str
  rw [show (24 : Nat) = 12 + 12 from rfl, pb_c_add]
  congr 2
  · exact pb_c_ext fun i _ => by rw [show 12 * (2 * p) + i = (12 + 12) * p + i by omega]
  · exact pb_c_ext fun i _ => by rw [show 12 * (2 * p + 1) + i = (12 + 12) * p + (12 + i) by omega]
theorem ev_strokesIn {p : Nat} (S : pS M a) (hp : p < 6) : Ev X 81 0 [fx_f a, .inl (p : Int), fx_u] [] M (some (.inl (z_str (ph M a) p : Int))) M := by
  refine r81_0 ev_upper (r81_3 S.1 (ev_edgeSet S (by omega)) (r81_4 ev_bitE (r81_5 ev_lower (r81_8 S.1 (ev_edgeSet S (by omega)) (r81_9 ev_bitE (Ev.res ?_ r81_10))))))
  have h1 := pb_c_le (fun c => ph M a (12 * (2 * p) + c)) 12
  have h2 := pb_c_le (fun c => ph M a (12 * (2 * p + 1) + c)) 12
  rw [← z_str_eq, ← pb_div (d := 2) (by omega) (by omega) (by omega)]
  push_cast
  rfl
theorem z_lf_eq (P : Nat → Bool) (f : Nat) : z_edge P (2 * f + 1) ^^^ z_edge P (2 * (f + 1)) = pb_s (fun c => P (24 * f + 12 + c) != P (24 * f + 24 + c)) 12 := by
  unfold z_edge
  rw [pb_s_xor]
  exact pb_s_ext fun i _ => by rw [show 12 * (2 * f + 1) + i = 24 * f + 12 + i by omega, show 12 * (2 * (f + 1)) + i = 24 * f + 24 + i by omega]
theorem ev_looseEnds (S : pS M a) : Ev X 89 0 [fx_f a, fx_u, fx_u] [] M (some (.inl (z_loose (ph M a) : Int))) M := by
  refine r89_0 ?_
  refine Ev.loop 5 (fun c => [fx_f a, .inl ((pb_n (z_lf (ph M a)) c : Nat) : Int), .inl (c : Int)]) (fun _ => M) (fun c hc k => ?_) (r89_4T (by omega) (by omega) r89_20)
  refine r89_4F (by omega) (by omega) (r89_7 S.1 (ev_marksAt S (by omega)) (r89_11 S.1 (ev_startsAt S (by omega)) ?_))
  have h1 := z_edge_lt (ph M a) (2 * c + 1)
  have h2 := z_edge_lt (ph M a) (2 * (c + 1))
  refine r89_14 (z := (z_lf (ph M a) c : Int)) (by rw [pb_xor (by omega) (by omega), z_lf_eq]; exact ev_bitCount) (r89_16 ?_)
  exact k
theorem z_f0_eq (P : Nat → Bool) (f : Nat) : pb_d (z_edge P (2 * f + 1)) (z_edge P (2 * (f + 1))) = z_f0 P f := by
  unfold z_edge z_f0
  rw [pb_s_d]
  exact pb_s_ext fun i _ => by rw [show 12 * (2 * f + 1) + i = 24 * f + 12 + i by omega, show 12 * (2 * (f + 1)) + i = 24 * f + 24 + i by omega]
theorem z_f1_eq (P : Nat → Bool) (f : Nat) : pb_d (z_edge P (2 * (f + 1))) (z_edge P (2 * f + 1)) = z_f1 P f := by
  unfold z_edge z_f1
  rw [pb_s_d]
  exact pb_s_ext fun i _ => by rw [show 12 * (2 * f + 1) + i = 24 * f + 12 + i by omega, show 12 * (2 * (f + 1)) + i = 24 * f + 24 + i by omega]
theorem ev_missedAt {f : Nat} (S : pS M a) (hf : f < 5) : Ev X 96 0 [fx_f a, .inl (f : Int)] [] M (some (.inl (z_f0 (ph M a) f : Int))) M := by
  refine r96_0 S.1 (ev_marksAt S (by omega)) (r96_3 S.1 (ev_startsAt S hf) (Ev.res ?_ r96_6))
  have h1 := z_edge_lt (ph M a) (2 * f + 1)
  have h2 := z_edge_lt (ph M a) (2 * (f + 1))
  rw [pb_andn (by omega) (by omega), z_f0_eq]
theorem ev_unmarkedAt {f : Nat} (S : pS M a) (hf : f < 5) : Ev X 106 0 [fx_f a, .inl (f : Int)] [] M (some (.inl (z_f1 (ph M a) f : Int))) M := by
  refine r106_0 S.1 (ev_startsAt S hf) (r106_3 S.1 (ev_marksAt S (by omega)) (Ev.res ?_ r106_6))
  have h1 := z_edge_lt (ph M a) (2 * f + 1)
  have h2 := z_edge_lt (ph M a) (2 * (f + 1))
  rw [pb_andn (by omega) (by omega), z_f1_eq]
/-- how an end is -/
def z_how (P : Nat → Bool) (k : Nat) : Int := if P k = true then (if pn k = -1 then 3 else if P (pn k).toNat = true then 1 else 2) else 0
theorem ev_howEndIs {k : Nat} (S : pS M a) (hk : k < 144) : Ev X 97 0 [fx_f a, .inl (k : Int), fx_u] [] M (some (.inl (z_how (ph M a) k))) M := by
  have hn := pn_rg hk
  refine r97_0 S.1 (ev_hasN S hk) ?_
  unfold z_how
  by_cases hp : ph M a k = true
  · rw [if_pos hp, if_pos hp]
    refine r97_3T (by omega) (by omega) (r97_6 (ev_neighbourOf hk) ?_)
    by_cases hm : pn k = -1
    · rw [if_pos hm]
      exact r97_8F (by omega) hm r97_12
    · rw [if_neg hm]
      refine r97_8T (by omega) hm (r97_14 S.1 (ev_has S (by constructor <;> omega)) ?_)
      by_cases hq : ph M a (pn k).toNat = true
      · rw [if_pos hq, if_pos ⟨by omega, hq⟩]
        exact r97_17F (by omega) (by omega) r97_18
      · rw [if_neg hq, if_neg (fun q => hq q.2)]
        exact r97_17T (by omega) rfl r97_20
  · rw [if_neg hp, if_neg hp]
    exact r97_3F (by omega) rfl r97_4
theorem ev_otherPlace {k : Nat} (S : pS M a) (hk : k < 144) (hp : ph M a k = true) : Ev X 98 0 [fx_f a, .inl (k : Int), fx_u] [] M (some (.inl (((24 * (k / 24) : Nat) : Int) + M (a + 1) k))) M := by
  have hb := S.2.1 k hk
  have hne : M (a + 1) k ≠ -1 := of_decide_eq_true hp
  refine r98_0 S.1 (ev_otherEnd S hk) (r98_3T (by omega) hne (r98_9 (ev_panelOf hk) (r98_11 (r3_0) (Ev.res ?_ r98_13))))
  push_cast
  omega
theorem ev_handOf {p : Nat} (S : pS M a) (hp : p < 6) : Ev X 99 0 [fx_f a, .inl (p : Int)] [] M (some (.inl (M (a + 2) p))) M :=
  r99_0 (ev_isPanel_y (by omega)) (r99_2F (by omega) (by omega) (Ev.res (by congr 1) (r99_3 S.1 (by omega))))
end EVT

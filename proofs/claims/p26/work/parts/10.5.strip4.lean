def z_tn (h e : Int) : Int := if h = 1 then (if e < 12 then e + 12 else e - 12) else if h = 0 then (if e < 12 then 11 - e else 35 - e) else 23 - e
theorem z_tn_rg {h e : Int} (he : 0 ≤ e ∧ e < 24) : 0 ≤ z_tn h e ∧ z_tn h e < 24 := by unfold z_tn; split <;> (try split) <;> (try split) <;> omega
theorem z_tn_inv {h e : Int} (he : 0 ≤ e ∧ e < 24) : z_tn h (z_tn h e) = e := by
  unfold z_tn
  by_cases h1 : h = 1
  · simp only [h1, if_true]
    split <;> split <;> omega
  · by_cases h0 : h = 0
    · subst h0
      simp only [h1, if_false, if_true]
      split <;> split <;> omega
    · simp only [h1, h0, if_false]
      omega
def z_swp (O : Nat → Int) (p q c : Nat) : Nat → Int := fun k => if 24 * p ≤ k ∧ k < 24 * p + c then O (24 * q + (k - 24 * p)) else if 24 * q ≤ k ∧ k < 24 * q + c then O (24 * p + (k - 24 * q)) else O k
def z_sw6 (H : Nat → Int) (p q : Nat) : Nat → Int := fx_up (fx_up H p (H q)) q (H p)
/-- the columns at which marks are taken up by the panel p -/
def z_opn (P : Nat → Bool) (p c : Nat) : Bool := (P (24 * (p - 1) + 12 + c) && !P (24 * p + c)) && !P (24 * p + 12 + c)
def z_tku (O : Nat → Int) (P : Nat → Bool) (p c : Nat) : Nat → Int := fun k =>
  if (24 * p ≤ k ∧ k < 24 * p + 12) ∧ k - 24 * p < c ∧ z_opn P p (k - 24 * p) = true then 12 + ((k - 24 * p : Nat) : Int) else
  if (24 * p + 12 ≤ k ∧ k < 24 * p + 24) ∧ k - 24 * p - 12 < c ∧ z_opn P p (k - 24 * p - 12) = true then ((k - 24 * p - 12 : Nat) : Int) else O k
def z_cpy (f g : Nat → Int) (n : Nat) : Nat → Int := fun k => if k < n then f k else g k
theorem fx_cp_0 (f g : Nat → Int) (n : Nat) : fx_cp f g 0 0 n = z_cpy f g n := by
  funext k
  unfold fx_cp z_cpy
  by_cases h : k < n
  · rw [if_pos (by omega), if_pos h]
    congr 1
    omega
  · rw [if_neg (by omega), if_neg h]
theorem z_lay_rg {mu nu : Int → Int} {O : Nat → Int} {p c : Nat} (hr : ∀ k, k < 144 → -1 ≤ O k ∧ O k < 24) (hi : z_inv O) (hp : p < 6) (hn : ∀ e : Nat, e < 24 → O (24 * p + e) ≠ -1 → nu (mu e) = e ∧ 0 ≤ mu e ∧ mu e < 24) : ∀ k, k < 144 → -1 ≤ z_lay mu nu O p c k ∧ z_lay mu nu O p c k < 24 := by
  intro k hk
  unfold z_lay
  split
  · split
    · next h =>
      obtain ⟨⟨h1, h2, h3⟩, -⟩ := h
      rcases hi p (nu ((k : Int) - 24 * p)).toNat hp (by omega) with q | ⟨o, o1, o2, o3, o4⟩
      · exact absurd q h3
      · rw [o3]
        have := hn o o1 (by rw [o4]; omega)
        omega
    · omega
  · exact hr k hk
section EVW
variable {X : fx_Sc} {M M' : fx_M} {j i a : Nat} {ls ls' st : List fx_V} {r : Option fx_V}
/-- the memory behind a panel's laying -/
def z_lM (M : fx_M) (a : Nat) (mu nu : Int → Int) (p c : Nat) : fx_M := fx_set (fx_set M (a + 3) (z_bef (M (a + 1)) (M (a + 3)) p 24)) (a + 1) (z_lay mu nu (M (a + 1)) p c)
theorem z_can_end {P : Nat → Bool} {p e : Nat} {x : Int} (h : z_can P p x = true) (he : e < 24) (hP : P (24 * p + e) = true) : (e < 12 → 0 ≤ (e : Int) + x ∧ (e : Int) + x < 12) ∧ (12 ≤ e → 12 ≤ (e : Int) + x ∧ (e : Int) + x < 24) := by
  have hall := pb_all_iff.mp h
  constructor
  · intro h1
    have := hall e (by omega)
    simp only [hP, Bool.true_or, Bool.not_true, Bool.false_or, Bool.and_eq_true, decide_eq_true_eq] at this
    exact this
  · intro h1
    have := hall (e - 12) (by omega)
    rw [show 24 * p + 12 + (e - 12) = 24 * p + e by omega] at this
    simp only [hP, Bool.or_true, Bool.not_true, Bool.false_or, Bool.and_eq_true, decide_eq_true_eq] at this
    omega
theorem ev_shift {p : Nat} {x : Int} (S : pS M a) (hi : z_inv (M (a + 1))) (hp : p < 6) (hx : -12 < x ∧ x < 12) (hc : z_can (ph M a) p x = true) : Ev X 87 0 [fx_f a, .inl (p : Int), .inl x, fx_u] [] M none (z_lM M a (fun e => e + x) (fun t => t - x) p 24) := by
  have hn : ∀ e : Nat, e < 24 → M (a + 1) (24 * p + e) ≠ -1 → ((e : Int) + x) - x = e ∧ 0 ≤ (e : Int) + x ∧ (e : Int) + x < 24 := by
    intro e he h
    have := z_can_end hc he (decide_eq_true h)
    omega
  refine r87_0 S.1 (ev_liftOff S hp) (r87_3 ?_)
  rw [← z_lay_0 (mu := fun e => e + x) (nu := fun t => t - x) S.2.1 hp]
  refine Ev.loop 24 (fun c => [fx_f a, .inl (p : Int), .inl x, .inl (c : Int)]) (fun c => z_lM M a (fun e => e + x) (fun t => t - x) p c) (fun c hcc k => ?_) (r87_5T (by omega) (by omega) r87_28)
  refine r87_5F (by omega) (by omega) ?_
  have eb : (z_lM M a (fun e => e + x) (fun t => t - x) p c) (a + 3) (c : Int).toNat = M (a + 1) (24 * p + c) := by
    have e1 : (c : Int).toNat = c := by omega
    unfold z_lM
    rw [fx_sn (by omega), fx_sk, e1]
    unfold z_bef
    rw [if_pos hcc]
  have hb := S.2.1 (24 * p + c) (by omega)
  by_cases hO : M (a + 1) (24 * p + c) = -1
  · refine r87_8T S.1 ⟨by omega, by rw [eb]; omega⟩ (by rw [eb]; exact hO) (r87_26 ?_)
    refine Ev.memL ?_ k
    unfold z_lM
    rw [z_lay_n hi hp hcc hO]
  · obtain ⟨o, o1, o2, o3, o4⟩ : ∃ o : Nat, o < 24 ∧ o ≠ c ∧ M (a + 1) (24 * p + c) = (o : Int) ∧ M (a + 1) (24 * p + o) = (c : Int) := by
      rcases hi p c hp hcc with h | h
      · exact absurd h hO
      · exact h
    obtain ⟨n1, n2, n3⟩ := hn c hcc hO
    obtain ⟨m1, m2, m3⟩ := hn o o1 (by rw [o4]; omega)
    refine r87_8F S.1 ⟨by omega, by rw [eb]; omega⟩ (by rw [eb]; exact hO) (r87_14 (M1 := z_lM M a (fun e => e + x) (fun t => t - x) p (c + 1)) S.1 (by omega) ?_ (r87_26 k))
    rw [eb, o3]
    have e3 : (c : Int) + x = (((c : Int) + x).toNat : Int) := by omega
    have e4 : (o : Int) + x = (((o : Int) + x).toNat : Int) := by omega
    rw [e3, e4]
    refine Ev.mem ?_ (ev_link S.1 hp (by omega) (by omega))
    unfold z_lM
    rw [fx_ss, fx_sk]
    congr 1
    exact z_lay_s (mu := fun e => e + x) (nu := fun t => t - x) hi hp hcc o3 hn (fun t _ _ _ _ => by omega)
theorem ev_turnedEnd {e h : Int} (he : 0 ≤ e ∧ e < 24) (hh : 0 ≤ h ∧ h < 3) : Ev X 93 0 [.inl e, .inl h, fx_u, fx_u] [] M (some (.inl (z_tn h e))) M := by
  unfold z_tn
  by_cases h1 : h = 1
  · rw [if_pos h1]
    by_cases hu : e < 12
    · rw [if_pos hu]
      exact r93_0F (by omega) hu (r93_3T (by omega) h1 (r93_22F (by omega) (by omega) (r93_24T (by omega) (by omega) (Ev.res (by omega) r93_28))))
    · rw [if_neg hu]
      exact r93_0T (by omega) (by omega) (r93_5T (by omega) h1 (r93_22F (by omega) (by omega) (r93_24F (by omega) rfl r93_26)))
  · rw [if_neg h1]
    by_cases h0 : h = 0
    · rw [if_pos h0]
      by_cases hu : e < 12
      · rw [if_pos hu]
        exact r93_0F (by omega) hu (r93_3F (by omega) h1 (r93_18T (by omega) h0 (r93_30F (by omega) (by omega) r93_32)))
      · rw [if_neg hu]
        exact r93_0T (by omega) (by omega) (r93_5F (by omega) h1 (r93_18T (by omega) h0 (r93_30T (by omega) rfl (Ev.res (by omega) r93_34))))
    · rw [if_neg h0]
      by_cases hu : e < 12
      · exact r93_0F (by omega) hu (r93_3F (by omega) h1 (r93_18F (by omega) h0 (r93_24T (by omega) (by omega) (Ev.res (by omega) r93_28))))
      · exact r93_0T (by omega) (by omega) (r93_5F (by omega) h1 (r93_18F (by omega) h0 (r93_24F (by omega) rfl (Ev.res (by omega) r93_26))))
theorem ev_flip {p : Nat} {h : Int} (S : pS M a) (hi : z_inv (M (a + 1))) (hp : p < 6) (hh : 0 ≤ h ∧ h < 3) : Ev X 92 0 [fx_f a, .inl (p : Int), .inl h, fx_u] [] M none (z_lM M a (z_tn h) (z_tn h) p 24) := by
  have hn : ∀ e : Nat, e < 24 → M (a + 1) (24 * p + e) ≠ -1 → z_tn h (z_tn h e) = e ∧ 0 ≤ z_tn h e ∧ z_tn h e < 24 := fun e he _ => ⟨z_tn_inv (by omega), z_tn_rg (by omega)⟩
  refine r92_0 S.1 (ev_liftOff S hp) (r92_3 ?_)
  rw [← z_lay_0 (mu := z_tn h) (nu := z_tn h) S.2.1 hp]
  refine Ev.loop 24 (fun c => [fx_f a, .inl (p : Int), .inl h, .inl (c : Int)]) (fun c => z_lM M a (z_tn h) (z_tn h) p c) (fun c hcc k => ?_) (r92_5T (by omega) (by omega) r92_28)
  refine r92_5F (by omega) (by omega) ?_
  have eb : (z_lM M a (z_tn h) (z_tn h) p c) (a + 3) (c : Int).toNat = M (a + 1) (24 * p + c) := by
    have e1 : (c : Int).toNat = c := by omega
    unfold z_lM
    rw [fx_sn (by omega), fx_sk, e1]
    unfold z_bef
    rw [if_pos hcc]
  have hb := S.2.1 (24 * p + c) (by omega)
  by_cases hO : M (a + 1) (24 * p + c) = -1
  · refine r92_8T S.1 ⟨by omega, by rw [eb]; omega⟩ (by rw [eb]; exact hO) (r92_26 ?_)
    refine Ev.memL ?_ k
    unfold z_lM
    rw [z_lay_n hi hp hcc hO]
  · obtain ⟨o, o1, o2, o3, o4⟩ : ∃ o : Nat, o < 24 ∧ o ≠ c ∧ M (a + 1) (24 * p + c) = (o : Int) ∧ M (a + 1) (24 * p + o) = (c : Int) := by
      rcases hi p c hp hcc with h | h
      · exact absurd h hO
      · exact h
    obtain ⟨n1, n2, n3⟩ := hn c hcc hO
    obtain ⟨m1, m2, m3⟩ := hn o o1 (by rw [o4]; omega)
    refine r92_8F S.1 ⟨by omega, by rw [eb]; omega⟩ (by rw [eb]; exact hO) (r92_14 (ev_turnedEnd (by omega) hh) (r92_19 (z := z_tn h o) S.1 (by omega) (by rw [eb, o3]; exact ev_turnedEnd (by omega) hh) (r92_25 (M1 := z_lM M a (z_tn h) (z_tn h) p (c + 1)) S.1 ?_ (r92_26 k))))
    have e3 : z_tn h (c : Int) = ((z_tn h (c : Int)).toNat : Int) := by omega
    have e4 : z_tn h (o : Int) = ((z_tn h (o : Int)).toNat : Int) := by omega
    rw [e3, e4]
    refine Ev.mem ?_ (ev_link S.1 hp (by omega) (by omega))
    unfold z_lM
    rw [fx_ss, fx_sk]
    congr 1
    exact z_lay_s hi hp hcc o3 hn (fun t ht _ _ _ => z_tn_inv (by omega))
theorem ev_swap {p q : Nat} (S : pS M a) (hp : p < 6) (hq : q < 6) (hpq : p ≠ q) : Ev X 94 0 [fx_f a, .inl (p : Int), .inl (q : Int), fx_u, fx_u] [] M none (fx_set (fx_set M (a + 1) (z_swp (M (a + 1)) p q 24)) (a + 2) (z_sw6 (M (a + 2)) p q)) := by
  refine r94_0 (ev_isPanel_y (by omega)) (r94_2F (by omega) (by omega) (r94_3 (ev_isPanel_y (by omega)) (r94_5T (by omega) (by omega) (r94_7 ?_))))
  have e0 : M = fx_set M (a + 1) (z_swp (M (a + 1)) p q 0) := by
    have : z_swp (M (a + 1)) p q 0 = M (a + 1) := by funext k; unfold z_swp; rw [if_neg (by omega), if_neg (by omega)]
    rw [this, fx_self]
  refine Ev.memL e0 ?_
  refine Ev.loop1 24 (fun c v => [fx_f a, .inl (p : Int), .inl (q : Int), .inl (c : Int), v]) (fun c => fx_set M (a + 1) (z_swp (M (a + 1)) p q c)) (fun c hc k v => ?_) (fun v => ?_) fx_u
  · refine r94_9F (by omega) (by omega) (r94_12 S.1 ev_placeOf (r94_17 S.1 (by omega) ev_placeOf (r94_24 S.1 ev_placeOf (r94_29 S.1 ⟨by omega, by omega⟩ ev_placeOf (r94_36 S.1 (by omega) ?_)))))
    refine Ev.memL ?_ (k _)
    have ep : ((24 * p + c : Nat) : Int).toNat = 24 * p + c := by omega
    have eq : ((24 * q + c : Nat) : Int).toNat = 24 * q + c := by omega
    rw [ep, eq]
    simp only [fx_ss, fx_sk]
    congr 1
    funext k
    unfold fx_up z_swp
    by_cases h1 : k = 24 * q + c
    · rw [if_pos h1, if_neg (by omega), if_neg (by omega), if_neg (by omega), if_pos (by omega)]
      congr 1
      omega
    · rw [if_neg h1]
      by_cases h2 : k = 24 * p + c
      · rw [if_pos h2, if_neg (by omega), if_neg (by omega), if_pos (by omega)]
        congr 1
        omega
      · rw [if_neg h2]
        by_cases h3 : 24 * p ≤ k ∧ k < 24 * p + c
        · rw [if_pos h3, if_pos (by omega)]
        · have h3' : ¬ (24 * p ≤ k ∧ k < 24 * p + (c + 1)) := by omega
          rw [if_neg h3, if_neg h3']
          by_cases h4 : 24 * q ≤ k ∧ k < 24 * q + c
          · rw [if_pos h4, if_pos (by omega)]
          · rw [if_neg h4, if_neg (by omega)]
  · refine r94_9T (by omega) (by omega) (Ev.mem ?_ (r94_40 S.1 ⟨by omega, by omega⟩))
    have ep : (p : Int).toNat = p := by omega
    have eq : (q : Int).toNat = q := by omega
    rw [ep, eq]
    have e2 : (fx_set M (a + 1) (z_swp (M (a + 1)) p q 24)) (a + 2) = M (a + 2) := fx_sn (by omega)
    simp only [fx_ss, fx_sk, e2]
    rfl
theorem z_opn_set (P : Nat → Bool) (p : Nat) (hp : 0 < p) : pb_d (z_f0 P (p - 1)) (z_edge P (2 * p + 1)) = pb_s (z_opn P p) 12 := by
  unfold z_f0 z_edge
  rw [pb_s_d]
  exact pb_s_ext fun i _ => by
    unfold z_opn
    rw [show 24 * (p - 1) + 24 + i = 24 * p + i by omega, show 12 * (2 * p + 1) + i = 24 * p + 12 + i by omega]
theorem ev_takeUpS {p : Nat} (S : pS M a) (hp : 0 < p) (hp6 : p < 6) : Ev X 95 0 [fx_f a, .inl (p : Int), fx_u, fx_u] [] M (some (.inl ((pb_c (z_opn (ph M a) p) 12 : Nat) : Int))) (fx_set M (a + 1) (z_tku (M (a + 1)) (ph M a) p 12)) := by
  have h1 : z_f0 (ph M a) (p - 1) < 4096 := pb_s_lt _ 12
  have h2 := z_edge_lt (ph M a) (2 * p + 1)
  have e1 : (p : Int) - 1 = ((p - 1 : Nat) : Int) := by omega
  refine r95_0 S.1 (by rw [e1]; exact ev_missedAt S (by omega)) (r95_5 ev_lower (r95_8 S.1 (ev_edgeSet S (by omega)) (r95_9 ?_)))
  rw [pb_andn (by omega) (by omega), z_opn_set _ _ hp]
  have hs := pb_s_lt (z_opn (ph M a) p) 12
  have e0 : M = fx_set M (a + 1) (z_tku (M (a + 1)) (ph M a) p 0) := by
    have : z_tku (M (a + 1)) (ph M a) p 0 = M (a + 1) := by funext k; unfold z_tku; rw [if_neg (by omega), if_neg (by omega)]
    rw [this, fx_self]
  refine Ev.memL e0 ?_
  refine Ev.loop 12 (fun c => [fx_f a, .inl (p : Int), .inl ((pb_s (z_opn (ph M a) p) 12 : Nat) : Int), .inl (c : Int)]) (fun c => fx_set M (a + 1) (z_tku (M (a + 1)) (ph M a) p c)) (fun c hc k => ?_) (r95_15T (by omega) (by omega) (r95_33 ev_bitCount r95_35))
  have hpw : 0 < 2 ^ c ∧ 2 ^ c ≤ 2 ^ 12 := ⟨Nat.two_pow_pos c, Nat.pow_le_pow_right (by omega) (by omega)⟩
  have bit : fx_and ((pb_s (z_opn (ph M a) p) 12 : Nat) : Int) (fx_shl 1 (c : Int)) = if z_opn (ph M a) p c = true then ((2 ^ c : Nat) : Int) else 0 := by
    rw [pb_mask (by omega) (by omega), pb_s_bit]
    simp [hc]
  refine r95_15F (by omega) (by omega) ?_
  by_cases ho : z_opn (ph M a) p c = true
  · rw [if_pos ho] at bit
    have e12 : (12 : Int) + (c : Int) = ((12 + c : Nat) : Int) := by omega
    refine r95_18F (by rw [bit]; omega) (by rw [bit]; omega) (r95_24 (M1 := fx_set M (a + 1) (z_tku (M (a + 1)) (ph M a) p (c + 1))) S.1 ?_ (r95_31 k))
    rw [e12]
    refine Ev.mem ?_ (ev_link S.1 hp6 (by omega) (by omega))
    rw [fx_ss, fx_sk]
    congr 1
    funext k
    unfold z_lnk fx_up z_tku
    by_cases k1 : k = 24 * p + (12 + c)
    · rw [if_pos k1, if_neg (by omega), if_pos ⟨by omega, by omega, by rw [show k - 24 * p - 12 = c by omega]; exact ho⟩]
      omega
    · rw [if_neg k1]
      by_cases k2 : k = 24 * p + c
      · rw [if_pos k2, if_pos ⟨by omega, by omega, by rw [show k - 24 * p = c by omega]; exact ho⟩]
        omega
      · rw [if_neg k2]
        by_cases k3 : (24 * p ≤ k ∧ k < 24 * p + 12) ∧ k - 24 * p < c ∧ z_opn (ph M a) p (k - 24 * p) = true
        · rw [if_pos k3, if_pos ⟨k3.1, by omega, k3.2.2⟩]
        · have k3' : ¬ ((24 * p ≤ k ∧ k < 24 * p + 12) ∧ k - 24 * p < c + 1 ∧ z_opn (ph M a) p (k - 24 * p) = true) := fun q => k3 ⟨q.1, by omega, q.2.2⟩
          rw [if_neg k3, if_neg k3']
          by_cases k4 : (24 * p + 12 ≤ k ∧ k < 24 * p + 24) ∧ k - 24 * p - 12 < c ∧ z_opn (ph M a) p (k - 24 * p - 12) = true
          · rw [if_pos k4, if_pos ⟨k4.1, by omega, k4.2.2⟩]
          · rw [if_neg k4, if_neg (fun q => k4 ⟨q.1, by omega, q.2.2⟩)]
  · rw [if_neg ho] at bit
    refine r95_18T (by rw [bit]; omega) bit (r95_31 ?_)
    refine Ev.memL ?_ k
    congr 1
    funext k
    unfold z_tku
    by_cases k3 : (24 * p ≤ k ∧ k < 24 * p + 12) ∧ k - 24 * p < c ∧ z_opn (ph M a) p (k - 24 * p) = true
    · rw [if_pos k3, if_pos ⟨k3.1, by omega, k3.2.2⟩]
    · have k3' : ¬ ((24 * p ≤ k ∧ k < 24 * p + 12) ∧ k - 24 * p < c + 1 ∧ z_opn (ph M a) p (k - 24 * p) = true) := fun q => by
        by_cases hz : k - 24 * p = c
        · rw [hz] at q; exact ho q.2.2
        · exact k3 ⟨q.1, by omega, q.2.2⟩
      rw [if_neg k3, if_neg k3']
      by_cases k4 : (24 * p + 12 ≤ k ∧ k < 24 * p + 24) ∧ k - 24 * p - 12 < c ∧ z_opn (ph M a) p (k - 24 * p - 12) = true
      · rw [if_pos k4, if_pos ⟨k4.1, by omega, k4.2.2⟩]
      · have k4' : ¬ ((24 * p + 12 ≤ k ∧ k < 24 * p + 24) ∧ k - 24 * p - 12 < c + 1 ∧ z_opn (ph M a) p (k - 24 * p - 12) = true) := fun q => by
          by_cases hz : k - 24 * p - 12 = c
          · rw [hz] at q; exact ho q.2.2
          · exact k4 ⟨q.1, by omega, q.2.2⟩
        rw [if_neg k4, if_neg k4']
theorem ev_copyFrom {b : Nat} (ha : fd_isS a) (hb : fd_isS b) (hab : b + 2 ≠ a + 1) : Ev X 77 0 [fx_f a, fx_f b] [] M none (fx_set (fx_set M (a + 1) (z_cpy (M (b + 1)) (M (a + 1)) 144)) (a + 2) (z_cpy (M (b + 2)) (M (a + 2)) 6)) := by
  refine Ev.mem ?_ (r77_0 ha hb)
  rw [show (0 : Int).toNat = 0 from rfl, show (144 : Int).toNat = 144 from rfl, show (6 : Int).toNat = 6 from rfl, fx_cp_0, fx_cp_0, fx_sn hab, fx_sn (show a + 2 ≠ a + 1 by omega)]
end EVW

/-! the reference: laying, exchanging, crossing, sets, hands -/
def y_bef (s B : Nat → Int) (p c : Nat) : Nat → Int := fun e => if e < c then s (24 * p + e) else B e
def y_lM (M : fx_M) (mu nu : Int → Int) (p c : Nat) : fx_M := fx_set (fx_set M 58 (y_bef (M 57) (M 58) p 24)) 57 (y_lay mu nu (M 57) p c)
theorem y_lay_0 {mu nu : Int → Int} {s : Nat → Int} {p : Nat} : y_lay mu nu s p 0 = y_era s p 24 := by
  funext k
  unfold y_lay y_era
  by_cases h : 24 * p ≤ k ∧ k < 24 * p + 24
  · rw [if_pos h, if_pos h, if_neg]
    rintro ⟨⟨h1, h2, h3⟩, h4⟩
    omega
  · rw [if_neg h, if_neg h]
theorem y_lay_s {mu nu : Int → Int} {s : Nat → Int} {p c : Nat} (hs : 0 < s (24 * p + c)) (hn : nu (mu c) = c ∧ 0 ≤ mu c ∧ mu c < 24) (hc : c < 24)
    (hm : ∀ t : Nat, t < 24 → 0 ≤ nu t → nu t < 24 → 0 < s (24 * p + (nu t).toNat) → mu (nu t) = t) : fx_up (y_lay mu nu s p c) (24 * p + (mu c).toNat) (mu (s (24 * p + c) - 1) + 1) = y_lay mu nu s p (c + 1) := by
  obtain ⟨n1, n2, n3⟩ := hn
  funext k
  unfold fx_up
  by_cases h2 : k = 24 * p + (mu c).toNat
  · rw [if_pos h2]
    unfold y_lay
    have e1 : (k : Int) - 24 * p = mu c := by omega
    have e2 : ((c : Nat) : Int).toNat = c := by omega
    rw [if_pos (by omega), e1, n1, e2, if_pos (by omega)]
  · rw [if_neg h2]
    unfold y_lay
    by_cases h3 : 24 * p ≤ k ∧ k < 24 * p + 24
    · rw [if_pos h3, if_pos h3]
      have hk : (k : Int) - 24 * p = ((k - 24 * p : Nat) : Int) := by omega
      rw [hk]
      by_cases h4 : 0 ≤ nu ((k - 24 * p : Nat) : Int) ∧ nu ((k - 24 * p : Nat) : Int) < 24 ∧ 0 < s (24 * p + (nu ((k - 24 * p : Nat) : Int)).toNat)
      · obtain ⟨h5, h6, h7⟩ := h4
        have hmm := hm (k - 24 * p) (by omega) h5 h6 h7
        have hne1 : nu ((k - 24 * p : Nat) : Int) ≠ (c : Int) := fun q => by rw [q] at hmm; omega
        by_cases h8 : nu ((k - 24 * p : Nat) : Int) < (c : Int)
        · rw [if_pos ⟨⟨h5, h6, h7⟩, h8⟩, if_pos ⟨⟨h5, h6, h7⟩, by omega⟩]
        · rw [if_neg (fun q => h8 q.2), if_neg (fun q => h8 (by omega))]
      · rw [if_neg (fun q => h4 q.1), if_neg (fun q => h4 q.1)]
    · rw [if_neg h3, if_neg h3]
theorem y_lay_n {mu nu : Int → Int} {s : Nat → Int} {p c : Nat} (hs : ¬ 0 < s (24 * p + c)) : y_lay mu nu s p c = y_lay mu nu s p (c + 1) := by
  funext k
  unfold y_lay
  by_cases h3 : 24 * p ≤ k ∧ k < 24 * p + 24
  · rw [if_pos h3, if_pos h3]
    generalize nu ((k : Int) - 24 * p) = t
    by_cases h4 : 0 ≤ t ∧ t < 24 ∧ 0 < s (24 * p + t.toNat)
    · obtain ⟨h5, h6, h7⟩ := h4
      have hne1 : t ≠ (c : Int) := fun q => hs (by rw [q] at h7; exact h7)
      by_cases h8 : t < (c : Int)
      · rw [if_pos ⟨⟨h5, h6, h7⟩, h8⟩, if_pos ⟨⟨h5, h6, h7⟩, by omega⟩]
      · rw [if_neg (fun q => h8 q.2), if_neg (fun q => h8 (by omega))]
    · rw [if_neg (fun q => h4 q.1), if_neg (fun q => h4 q.1)]
  · rw [if_neg h3, if_neg h3]
theorem z_bt_1 (o t : Int) : z_bt o o t = false := by
  unfold z_bt
  rw [decide_eq_false_iff_not]
  rintro ⟨h1, h2⟩
  split at h1 <;> split at h2 <;> omega
theorem z_bt_2 (o t : Int) : z_bt t o t = false := by
  unfold z_bt
  rw [decide_eq_false_iff_not]
  rintro ⟨h1, h2⟩
  split at h1 <;> split at h2 <;> omega
theorem pb_s_sum (P : Nat → Bool) (n : Nat) : pb_s P n = pb_n (fun p => if P p = true then 2 ^ p else 0) n := by
  induction n with
  | zero => rfl
  | succ n ih =>
    rw [pb_s, pb_n, ← ih]
    cases h : P n with
    | false => simp
    | true =>
      simp only [if_true]
      have h2 := Nat.two_pow_add_eq_or_of_lt (pb_s_lt P n) 1
      rw [Nat.mul_one] at h2
      rw [Nat.or_comm, ← h2]
      omega
/-- what ofHand adds for a panel -/
def y_oh (P : Nat → Bool) (H : Nat → Int) (h w : Int) (p : Nat) : Nat := if H p = h then (if w = 0 then 2 ^ p else if w = 1 then z_str P p else if w = 2 then (if 0 < p then z_c0 P (p - 1) + z_c1 P (p - 1) else 0) else (if 0 < p then z_c1 P (p - 1) else 0)) else 0
section MDM
variable {X : fx_Sc} {M M' : fx_M} {j i : Nat} {ls ls' st : List fx_V} {r : Option fx_V}
theorem evm_lays {p : Nat} {x mi ov : Int} {mu nu : Int → Int} (hr : ∀ k, k < 144 → 0 ≤ M 57 k ∧ M 57 k ≤ 24) (hp : p < 6) (hmv : ∀ (e : Nat) (M : fx_M), e < 24 → Ev X 128 0 [.inl (e : Int), .inl x, .inl mi, .inl ov, fx_u, fx_u] [] M (some (.inl (mu e))) M)
    (hn : ∀ e : Nat, e < 24 → 0 < M 57 (24 * p + e) → nu (mu e) = e ∧ 0 ≤ mu e ∧ mu e < 24) (hm : ∀ t : Nat, t < 24 → 0 ≤ nu t → nu t < 24 → 0 < M 57 (24 * p + (nu t).toNat) → mu (nu t) = t) :
    Ev X 127 0 [fx_f 56, .inl (p : Int), .inl x, .inl mi, .inl ov, fx_u, fx_u] [] M none (y_lM M mu nu p 24) := by
  refine r127_0 ?_
  have e0 : M = fx_set M 58 (y_bef (M 57) (M 58) p 0) := by
    have : y_bef (M 57) (M 58) p 0 = M 58 := by funext k; unfold y_bef; rw [if_neg (by omega)]
    rw [this, fx_self]
  refine Ev.memL e0 ?_
  refine Ev.loop 24 (fun c => [fx_f 56, .inl (p : Int), .inl x, .inl mi, .inl ov, .inl (c : Int), fx_u]) (fun c => fx_set M 58 (y_bef (M 57) (M 58) p c)) (fun c hc k => ?_) ?_
  · refine r127_2F (by omega) (by omega) (r127_5 ⟨by omega, by omega⟩ (Ev.memL ?_ k))
    have e1 : (24 * (p : Int) + (c : Int)).toNat = 24 * p + c := by omega
    have e2 : (c : Int).toNat = c := by omega
    rw [fx_ss, fx_sk, e1, e2, fx_sn (by decide)]
    congr 1
    funext q
    unfold fx_up y_bef
    by_cases h1 : q = c
    · rw [if_pos h1, if_pos (by omega), h1]
    · rw [if_neg h1]
      by_cases h2 : q < c
      · rw [if_pos h2, if_pos (by omega)]
      · rw [if_neg h2, if_neg (by omega)]
  · refine r127_2T (by omega) (by omega) (r127_19 (evm_rubsAll hp) (r127_22 ?_))
    rw [show (fx_set M 58 (y_bef (M 57) (M 58) p 24)) 57 = M 57 from fx_sn (by decide), ← y_lay_0 (mu := mu) (nu := nu)]
    refine Ev.loop1 24 (fun c v => [fx_f 56, .inl (p : Int), .inl x, .inl mi, .inl ov, .inl (c : Int), v]) (fun c => y_lM M mu nu p c) (fun c hc k v => ?_) (fun v => r127_24T (by omega) (by omega) r127_60) fx_u
    have eb : (y_lM M mu nu p c) 58 (c : Int).toNat = M 57 (24 * p + c) := by
      have e1 : (c : Int).toNat = c := by omega
      unfold y_lM
      rw [fx_sn (by decide), fx_sk, e1]
      unfold y_bef
      rw [if_pos hc]
    have hb := hr (24 * p + c) (by omega)
    refine r127_24F (by omega) (by omega) ?_
    by_cases h0 : 0 < M 57 (24 * p + c)
    · obtain ⟨n1, n2, n3⟩ := hn c hc h0
      have e3 : M 57 (24 * p + c) - 1 = ((M 57 (24 * p + c) - 1).toNat : Int) := by omega
      have h5 := hmv (M 57 (24 * p + c) - 1).toNat (y_lM M mu nu p c) (by omega)
      rw [← e3] at h5
      refine r127_27F ⟨by omega, by rw [eb]; omega⟩ (by rw [eb]; exact h0) (r127_32 (by omega) (by rw [eb]; exact h5) (r127_42 (hmv c _ hc) (r127_53 (by omega) (Ev.memL ?_ (k _)))))
      have e4 : (24 * (p : Int) + mu (c : Int)).toNat = 24 * p + (mu c).toNat := by omega
      unfold y_lM
      rw [fx_ss, fx_sk, e4]
      congr 1
      exact y_lay_s h0 ⟨n1, n2, n3⟩ hc hm
    · refine r127_27T ⟨by omega, by rw [eb]; omega⟩ (by rw [eb]; omega) (r127_58 (Ev.memL ?_ (k _)))
      unfold y_lM
      rw [y_lay_n h0]
theorem z_swp_hi {O : Nat → Int} {p q k : Nat} (hp : p < 6) (hq : q < 6) (hk : 144 ≤ k) : z_swp O p q 24 k = O k := by
  unfold z_swp
  rw [if_neg (by omega), if_neg (by omega)]
theorem evm_exchanges {p q : Nat} (hp : p < 6) (hq : q < 6) (hpq : p ≠ q) : Ev X 135 0 [fx_f 56, .inl (p : Int), .inl (q : Int), fx_u, fx_u] [] M none (fx_set M 57 (y_swp (M 57) p q)) := by
  refine r135_0 ?_
  have e0 : M = fx_set M 57 (z_swp (M 57) p q 0) := by
    have : z_swp (M 57) p q 0 = M 57 := by funext k; unfold z_swp; rw [if_neg (by omega), if_neg (by omega)]
    rw [this, fx_self]
  refine Ev.memL e0 ?_
  refine Ev.loop1 24 (fun c v => [fx_f 56, .inl (p : Int), .inl (q : Int), .inl (c : Int), v]) (fun c => fx_set M 57 (z_swp (M 57) p q c)) (fun c hc k v => ?_) (fun v => ?_) fx_u
  · refine r135_2F (by omega) (by omega) (r135_5 ⟨by omega, by omega⟩ (Ev.memL ?_ (k _)))
    have ep : (24 * (p : Int) + (c : Int)).toNat = 24 * p + c := by omega
    have eq : (24 * (q : Int) + (c : Int)).toNat = 24 * q + c := by omega
    rw [ep, eq]
    simp only [fx_ss, fx_sk]
    congr 1
    funext k
    unfold fx_up z_swp
    by_cases h1 : k = 24 * q + c
    · rw [if_pos h1, if_neg (by omega), if_neg (by omega), if_neg (by omega), if_pos (by omega)]
      congr 1
      omega
    · rw [if_neg h1]
      by_cases h2 : k = 24 * p + c
      · rw [if_pos h2, if_neg (by omega), if_neg (by omega), if_pos (by omega)]
        congr 1
        omega
      · rw [if_neg h2]
        by_cases h3 : 24 * p ≤ k ∧ k < 24 * p + c
        · rw [if_pos h3, if_pos (by omega)]
        · have h3' : ¬ (24 * p ≤ k ∧ k < 24 * p + (c + 1)) := by omega
          rw [if_neg h3, if_neg h3']
          by_cases h4 : 24 * q ≤ k ∧ k < 24 * q + c
          · rw [if_pos h4, if_pos (by omega)]
          · rw [if_neg h4, if_neg (by omega)]
  · refine r135_2T (by omega) (by omega) (Ev.mem ?_ (r135_41 ⟨by omega, by omega⟩))
    have ep : (144 + (p : Int)).toNat = 144 + p := by omega
    have eq : (144 + (q : Int)).toNat = 144 + q := by omega
    rw [ep, eq]
    simp only [fx_ss, fx_sk]
    rw [z_swp_hi hp hq (by omega), z_swp_hi hp hq (by omega)]
    rfl
theorem evm_around {e : Int} (he : -1 ≤ e ∧ e < 24) : Ev X 155 0 [.inl e] [] M (some (.inl (z_ar e))) M := by
  unfold z_ar
  by_cases h : e < 12
  · rw [if_pos h]
    exact r155_0F (by omega) h r155_3
  · rw [if_neg h]
    exact r155_0T (by omega) (by omega) r155_5
theorem evm_isBetween {e o t : Int} (he : -1 ≤ e ∧ e < 24) (ho : -1 ≤ o ∧ o < 24) (ht : -1 ≤ t ∧ t < 24) : Ev X 154 0 [.inl e, .inl o, .inl t, fx_u, fx_u, fx_u, fx_u] [] M (some (.inl (if z_bt e o t = true then 1 else 0))) M := by
  have h1 := z_ar_rg he
  have h2 := z_ar_rg ho
  have h3 := z_ar_rg ht
  refine r154_0 (evm_around ho) (r154_2 (evm_around ht) ?_)
  by_cases c0 : z_ar o < z_ar t
  · refine r154_5F ⟨by omega, by omega⟩ c0 (r154_9F ⟨by omega, by omega⟩ c0 (r154_16 (evm_around he) ?_))
    have hz : z_bt e o t = decide (z_ar o < z_ar e ∧ z_ar e < z_ar t) := by
      unfold z_bt
      rw [if_neg (by omega), if_pos c0]
    rw [hz]
    by_cases c1 : z_ar o < z_ar e
    · refine r154_22F ⟨by omega, by omega⟩ c1 (r154_24 (evm_around he) ?_)
      by_cases c2 : z_ar e < z_ar t
      · rw [if_pos (decide_eq_true ⟨c1, c2⟩)]
        exact r154_26F ⟨by omega, by omega⟩ c2 r154_28
      · rw [if_neg (fun q => c2 (of_decide_eq_true q).2)]
        exact r154_26T ⟨by omega, by omega⟩ (by omega) r154_30
    · rw [if_neg (fun q => c1 (of_decide_eq_true q).1)]
      exact r154_22T ⟨by omega, by omega⟩ (by omega) r154_30
  · refine r154_5T ⟨by omega, by omega⟩ (by omega) (r154_11T ⟨by omega, by omega⟩ (by omega) (r154_18 (evm_around he) ?_))
    have hz : z_bt e o t = decide (z_ar t < z_ar e ∧ z_ar e < z_ar o) := by
      unfold z_bt
      rw [if_neg c0]
      by_cases c3 : z_ar t < z_ar o
      · rw [if_pos c3]
      · rw [if_neg c3]
        have : z_ar t = z_ar o := by omega
        rw [this]
    rw [hz]
    by_cases c1 : z_ar t < z_ar e
    · refine r154_22F ⟨by omega, by omega⟩ c1 (r154_24 (evm_around he) ?_)
      by_cases c2 : z_ar e < z_ar o
      · rw [if_pos (decide_eq_true ⟨c1, c2⟩)]
        exact r154_26F ⟨by omega, by omega⟩ c2 r154_28
      · rw [if_neg (fun q => c2 (of_decide_eq_true q).2)]
        exact r154_26T ⟨by omega, by omega⟩ (by omega) r154_30
    · rw [if_neg (fun q => c1 (of_decide_eq_true q).1)]
      exact r154_22T ⟨by omega, by omega⟩ (by omega) r154_30
def mO (M : fx_M) : Nat → Int := fun k => M 57 k - 1
theorem evm_crossing {k : Nat} (S : mS M) (hi : z_inv (mO M)) (hk : k < 144) (hO : mO M k ≠ -1) : Ev X 153 0 [fx_f 56, .inl (k : Int), fx_u, fx_u, fx_u, fx_u, fx_u, fx_u, fx_u] [] M (some (.inl (z_cr (mO M) k : Int))) M := by
  have hkk : 0 ≤ M 57 k ∧ M 57 k ≤ 24 := S.1 k hk
  refine r153_0 (by omega) ?_
  have hd : fx_div (k : Int) 24 = ((k / 24 : Nat) : Int) := pb_div (d := 24) (by omega) (by omega) (by omega)
  have hr : fx_rem (k : Int) 24 = ((k % 24 : Nat) : Int) := pb_rem (d := 24) (by omega) (by omega) (by omega)
  have ek : (k : Int).toNat = k := by omega
  rw [hd, hr, ek]
  obtain ⟨two, t1, t2, t3, t4⟩ : ∃ o : Nat, o < 24 ∧ o ≠ k % 24 ∧ mO M k = (o : Int) ∧ mO M (24 * (k / 24) + o) = ((k % 24 : Nat) : Int) := by
    have := hi (k / 24) (k % 24) (by omega) (by omega)
    rw [show 24 * (k / 24) + k % 24 = k by omega] at this
    rcases this with h | h
    · exact absurd h hO
    · exact h
  refine Ev.loop2 24 (fun c v w => [fx_f 56, .inl (k : Int), .inl ((k / 24 : Nat) : Int), .inl ((k % 24 : Nat) : Int), .inl (mO M k), .inl ((pb_c (fun e => decide ((e : Int) < mO M (24 * (k / 24) + e)) && (z_bt e ((k % 24 : Nat) : Int) (mO M k) != z_bt (mO M (24 * (k / 24) + e)) ((k % 24 : Nat) : Int) (mO M k))) c : Nat) : Int), .inl (c : Int), v, w]) (fun _ => M) (fun c hc kk v w => ?_) (fun v w => r153_19T (by omega) (by omega) r153_65) fx_u fx_u
  have e1 : (24 * ((k / 24 : Nat) : Int) + (c : Int)).toNat = 24 * (k / 24) + c := by omega
  have hb0 := S.1 (24 * (k / 24) + c) (by omega)
  have hb : -1 ≤ mO M (24 * (k / 24) + c) ∧ mO M (24 * (k / 24) + c) < 24 := by unfold mO; omega
  have ev : M 57 (24 * ((k / 24 : Nat) : Int) + (c : Int)).toNat - 1 = mO M (24 * (k / 24) + c) := by rw [e1]; rfl
  have hkO : -1 ≤ mO M k ∧ mO M k < 24 := by unfold mO; omega
  refine r153_19F (by omega) (by omega) ?_
  simp only [pb_c] at kk
  by_cases h1 : (c : Int) < mO M (24 * (k / 24) + c)
  · simp only [h1, decide_true, Bool.true_and] at kk
    refine r153_22F ⟨by omega, by rw [ev]; omega, by omega⟩ (by rw [ev]; exact h1) ?_
    rw [ev]
    by_cases c1 : c = k % 24
    · have hsame : mO M (24 * (k / 24) + c) = mO M k := by rw [c1, show 24 * (k / 24) + k % 24 = k by omega]
      have hf : (z_bt (c : Int) ((k % 24 : Nat) : Int) (mO M k) != z_bt (mO M (24 * (k / 24) + c)) ((k % 24 : Nat) : Int) (mO M k)) = false := by rw [hsame, z_bt_2, c1, z_bt_1]; rfl
      simp only [hf, Bool.false_eq_true, if_false, Nat.add_zero] at kk
      exact r153_36T ⟨by omega, by omega⟩ (by omega) (r153_44 (by simp only [Int.add_zero]; exact kk _ _))
    · refine r153_36F ⟨by omega, by omega⟩ (by omega) ?_
      by_cases c2 : c = two
      · have hf : (z_bt (c : Int) ((k % 24 : Nat) : Int) (mO M k) != z_bt (mO M (24 * (k / 24) + c)) ((k % 24 : Nat) : Int) (mO M k)) = false := by rw [c2, t4, t3, z_bt_1, z_bt_2]; rfl
        simp only [hf, Bool.false_eq_true, if_false, Nat.add_zero] at kk
        exact r153_39T ⟨by omega, by omega⟩ (by omega) (r153_44 (by simp only [Int.add_zero]; exact kk _ _))
      · refine r153_39F ⟨by omega, by omega⟩ (by omega) (r153_42 (evm_isBetween (by omega) (by omega) hkO) (r153_53 (evm_isBetween hb (by omega) hkO) ?_))
        cases hA : z_bt (c : Int) ((k % 24 : Nat) : Int) (mO M k) <;> cases hB : z_bt (mO M (24 * (k / 24) + c)) ((k % 24 : Nat) : Int) (mO M k) <;> simp only [hA, hB, Bool.false_eq_true, if_true, if_false, bne_self_eq_false, Nat.add_zero] at kk ⊢
        · exact r153_57T ⟨by omega, by omega⟩ rfl (r153_60 (by simp only [Int.add_zero]; exact kk _ _))
        · exact r153_57F ⟨by omega, by omega⟩ (by omega) (r153_58 (kk _ _))
        · exact r153_57F ⟨by omega, by omega⟩ (by omega) (r153_58 (kk _ _))
        · exact r153_57T ⟨by omega, by omega⟩ rfl (r153_60 (by simp only [Int.add_zero]; exact kk _ _))
  · simp only [h1, decide_false, Bool.false_and, Bool.false_eq_true, if_false, Nat.add_zero] at kk
    refine r153_22T ⟨by omega, by rw [ev]; omega, by omega⟩ (by rw [ev]; omega) ?_
    rw [ev]
    exact r153_44 (by simp only [Int.add_zero]; exact kk _ _)
theorem evm_pairs {p : Nat} (S : mS M) (hi : z_inv (mO M)) (hp : p < 6) : Ev X 158 0 [fx_f 56, .inl (p : Int), fx_u, fx_u, fx_u] [] M (some (.inl (z_prs (mO M) p : Int))) M := by
  obtain ⟨g, hg⟩ : ∃ g : Nat → Nat, ∀ e, g e = if (e : Int) < mO M (24 * p + e) then z_cr (mO M) (24 * p + e) else 0 := ⟨fun e => if (e : Int) < mO M (24 * p + e) then z_cr (mO M) (24 * p + e) else 0, fun _ => rfl⟩
  have hz : z_prs (mO M) p = pb_n g 24 / 2 := by
    unfold z_prs
    rw [pb_n_ext (fun i _ => (hg i).symm)]
  have hle : pb_n g 24 ≤ 24 * 24 := pb_n_le fun i _ => by
    rw [hg]
    split
    · exact pb_c_le _ 24
    · omega
  rw [hz]
  refine r158_0 ?_
  refine Ev.loop1 24 (fun c v => [fx_f 56, .inl (p : Int), .inl ((pb_n g c : Nat) : Int), .inl (c : Int), v]) (fun _ => M) (fun c hc k v => ?_) (fun v => r158_4T (by omega) (by omega) (Ev.res (pb_div (d := 2) (by omega) (by omega) (by omega)) r158_31)) fx_u
  have e1 : (24 * (p : Int) + (c : Int)).toNat = 24 * p + c := by omega
  have e2 : 24 * (p : Int) + (c : Int) = ((24 * p + c : Nat) : Int) := by push_cast; omega
  have hb0 := S.1 (24 * p + c) (by omega)
  have ev : M 57 (24 * (p : Int) + (c : Int)).toNat - 1 = mO M (24 * p + c) := by rw [e1]; rfl
  have hb : -1 ≤ mO M (24 * p + c) ∧ mO M (24 * p + c) < 24 := by unfold mO; omega
  refine r158_4F (by omega) (by omega) ?_
  have hgc := hg c
  simp only [pb_n] at k
  by_cases h1 : (c : Int) < mO M (24 * p + c)
  · rw [if_pos h1] at hgc
    rw [hgc] at k
    exact r158_7F ⟨by omega, by rw [ev]; omega, by omega⟩ (by rw [ev]; exact h1) (r158_22 (by rw [e2]; exact evm_crossing S hi (by omega) (by omega)) (r158_25 (k _)))
  · rw [if_neg h1] at hgc
    rw [hgc] at k
    exact r158_7T ⟨by omega, by rw [ev]; omega, by omega⟩ (by rw [ev]; omega) (r158_26 (by simp only [Int.add_zero]; exact k _))
theorem evm_columns {b : Nat} (S : mS M) (hb : b + 12 ≤ 144) : Ev X 157 0 [fx_f 56, .inl (b : Int), fx_u, fx_u] [] M (some (.inl ((pb_s (fun c => mh M (b + c)) 12 : Nat) : Int))) M := by
  refine r157_0 ?_
  refine Ev.loop 12 (fun c => [fx_f 56, .inl (b : Int), .inl ((pb_s (fun c => mh M (b + c)) c : Nat) : Int), .inl (c : Int)]) (fun _ => M) (fun c hc k => ?_) (r157_4T (by omega) (by omega) r157_23)
  have e1 : (b : Int) + (c : Int) = ((b + c : Nat) : Int) := by push_cast; omega
  have hlt := pb_s_lt (fun c => mh M (b + c)) c
  have h2 : 2 ^ c ≤ 2 ^ 12 := Nat.pow_le_pow_right (by omega) (by omega)
  refine r157_4F (by omega) (by omega) (r157_7 (by rw [e1]; exact evm_has S (by omega)) ?_)
  simp only [pb_s] at k
  by_cases h : mh M (b + c) = true
  · rw [if_pos h] at k ⊢
    refine r157_13F (by omega) (by omega) (r157_14 ?_)
    rw [pb_shl1 c (by omega), pb_or (by omega) (by omega)]
    exact k
  · rw [if_neg h] at k ⊢
    refine r157_13T (by omega) rfl (r157_18 ?_)
    have := pb_or (a := pb_s (fun c => mh M (b + c)) c) (b := 0) (by omega) (by omega)
    rw [show ((0 : Nat) : Int) = 0 from rfl] at this
    rw [this]
    exact k
theorem evm_down {p : Nat} (S : mS M) (hp : p < 6) : Ev X 160 0 [fx_f 56, .inl (p : Int), fx_u, fx_u] [] M (some (.inl ((pb_c (fun c => decide (12 ≤ mO M (24 * p + c))) 12 : Nat) : Int))) M := by
  refine r160_0 ?_
  refine Ev.loop 12 (fun c => [fx_f 56, .inl (p : Int), .inl ((pb_c (fun c => decide (12 ≤ mO M (24 * p + c))) c : Nat) : Int), .inl (c : Int)]) (fun _ => M) (fun c hc k => ?_) (r160_4T (by omega) (by omega) r160_25)
  have e1 : (24 * (p : Int) + (c : Int)).toNat = 24 * p + c := by omega
  have hb0 := S.1 (24 * p + c) (by omega)
  refine r160_4F (by omega) (by omega) ?_
  simp only [pb_c] at k
  by_cases h : 12 ≤ mO M (24 * p + c)
  · simp only [h, decide_true, if_true] at k
    exact r160_7F ⟨by omega, by rw [e1]; omega⟩ (by rw [e1]; unfold mO at h; omega) (r160_18 k)
  · simp only [h, decide_false, Bool.false_eq_true, if_false, Nat.add_zero] at k
    exact r160_7T ⟨by omega, by rw [e1]; omega⟩ (by rw [e1]; unfold mO at h; omega) (r160_20 (by simp only [Int.add_zero]; exact k))
theorem evm_faults {f : Nat} {w : Int} (S : mS M) (hf : f < 5) (hw : pR w) : Ev X 162 0 [fx_f 56, .inl (f : Int), .inl w, fx_u, fx_u] [] M (some (.inl (if w = 0 then (z_f0 (mh M) f : Int) else (z_f1 (mh M) f : Int)))) M := by
  have e1 : 24 * (f : Int) + 12 = ((24 * f + 12 : Nat) : Int) := by push_cast; omega
  have e2 : 24 * (f : Int) + 24 = ((24 * f + 24 : Nat) : Int) := by push_cast; omega
  refine r162_0 (by rw [e1]; exact evm_columns S (by omega)) (r162_7 (by rw [e2]; exact evm_columns S (by omega)) ?_)
  have h1 := pb_s_lt (fun c => mh M (24 * f + 12 + c)) 12
  have h2 := pb_s_lt (fun c => mh M (24 * f + 24 + c)) 12
  by_cases h : w = 0
  · rw [if_pos h]
    exact r162_15F hw h (Ev.res (by rw [pb_andn (by omega) (by omega), pb_s_d]; rfl) r162_18)
  · rw [if_neg h]
    exact r162_15T hw h (Ev.res (by rw [pb_andn (by omega) (by omega), pb_s_d]; rfl) r162_24)
theorem evm_bits {P : Nat → Bool} : Ev X 165 0 [.inl ((pb_s P 12 : Nat) : Int), fx_u, fx_u] [] M (some (.inl ((pb_c P 12 : Nat) : Int))) M := by
  refine r165_0 ?_
  have h1 := pb_s_lt P 12
  refine Ev.loop 12 (fun c => [.inl ((pb_s P 12 : Nat) : Int), .inl ((pb_c P c : Nat) : Int), .inl (c : Int)]) (fun _ => M) (fun c hc k => ?_) (r165_4T (by omega) (by omega) r165_17)
  refine r165_4F (by omega) (by omega) (r165_7 ?_)
  rw [pb_bit (by omega) (by omega), pb_s_bit]
  simp only [hc, decide_true, Bool.true_and]
  simp only [pb_c] at k
  by_cases h : P c = true
  · simp only [h, if_true] at k ⊢
    exact k
  · simp only [h, Bool.false_eq_true, if_false, Nat.add_zero] at k ⊢
    simp only [Int.add_zero]
    exact k
end MDM

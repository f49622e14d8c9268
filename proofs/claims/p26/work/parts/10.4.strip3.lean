/-! what is done to a strip -/
theorem fx_ss {M : fx_M} {k : Nat} {f g : Nat → Int} : fx_set (fx_set M k f) k g = fx_set M k g := by
  funext q
  unfold fx_set
  split <;> rfl
theorem fx_sk {M : fx_M} {k : Nat} {f : Nat → Int} : (fx_set M k f) k = f := by simp [fx_set]
theorem fx_sn {M : fx_M} {k q : Nat} {f : Nat → Int} (h : q ≠ k) : (fx_set M k f) q = M q := by simp [fx_set, h]
theorem fx_self {M : fx_M} {k : Nat} : fx_set M k (M k) = M := by
  funext q
  unfold fx_set
  split
  · next h => rw [h]
  · rfl
theorem fx_sc {M : fx_M} {k q : Nat} {f g : Nat → Int} (h : k ≠ q) : fx_set (fx_set M k f) q g = fx_set (fx_set M q g) k f := by
  funext z
  unfold fx_set
  by_cases h1 : z = q
  · subst h1
    simp [Ne.symm h]
  · simp [h1]
theorem pS_set {M : fx_M} {a : Nat} {F : Nat → Int} (S : pS M a) (h : ∀ k, k < 144 → -1 ≤ F k ∧ F k < 24) : pS (fx_set M (a + 1) F) a :=
  ⟨S.1, fun k hk => by rw [fx_sk]; exact h k hk, fun k hk => by rw [fx_sn (by omega)]; exact S.2.2 k hk⟩
theorem pS_oth {M : fx_M} {a q : Nat} {F : Nat → Int} (S : pS M a) (h1 : q ≠ a + 1) (h2 : q ≠ a + 2) : pS (fx_set M q F) a :=
  ⟨S.1, fun k hk => by rw [fx_sn (Ne.symm h1)]; exact S.2.1 k hk, fun k hk => by rw [fx_sn (Ne.symm h2)]; exact S.2.2 k hk⟩
theorem ph_set {M : fx_M} {a : Nat} {F : Nat → Int} {k : Nat} : ph (fx_set M (a + 1) F) a k = decide (F k ≠ -1) := by unfold ph; rw [fx_sk]
def z_era (O : Nat → Int) (p c : Nat) : Nat → Int := fun k => if 24 * p ≤ k ∧ k < 24 * p + c then -1 else O k
def z_lnk (O : Nat → Int) (p e o : Nat) : Nat → Int := fx_up (fx_up O (24 * p + e) o) (24 * p + o) e
def z_unl (O : Nat → Int) (p e o : Nat) : Nat → Int := fx_up (fx_up O (24 * p + e) (-1)) (24 * p + o) (-1)
/-- a panel's strokes laid at other ends: mu says where an end comes, nu where one came from; those whose one end is below c are laid -/
def z_lay (mu nu : Int → Int) (O : Nat → Int) (p c : Nat) : Nat → Int := fun k => if 24 * p ≤ k ∧ k < 24 * p + 24 then
    (if (0 ≤ nu ((k : Int) - 24 * p) ∧ nu ((k : Int) - 24 * p) < 24 ∧ O (24 * p + (nu ((k : Int) - 24 * p)).toNat) ≠ -1) ∧ (nu ((k : Int) - 24 * p) < c ∨ O (24 * p + (nu ((k : Int) - 24 * p)).toNat) < c) then mu (O (24 * p + (nu ((k : Int) - 24 * p)).toNat)) else -1) else O k
/-- strokes have two ends -/
def z_inv (O : Nat → Int) : Prop := ∀ p e, p < 6 → e < 24 → O (24 * p + e) = -1 ∨ ∃ o : Nat, o < 24 ∧ o ≠ e ∧ O (24 * p + e) = (o : Int) ∧ O (24 * p + o) = (e : Int)
section EVV
variable {X : fx_Sc} {M M' : fx_M} {j i a : Nat} {ls ls' st : List fx_V} {r : Option fx_V}
theorem Ev.memL {M0 : fx_M} (h : M0 = M) (k : Ev X j i ls st M r M') : Ev X j i ls st M0 r M' := h ▸ k
theorem ev_erase {p : Nat} (S : fd_isS a) (hp : p < 6) : Ev X 78 0 [fx_f a, .inl (p : Int), fx_u] [] M none (fx_set M (a + 1) (z_era (M (a + 1)) p 24)) := by
  refine r78_0 (ev_isPanel_y (by omega)) (r78_2T (by omega) (by omega) (r78_4 ?_))
  have e0 : M = fx_set M (a + 1) (z_era (M (a + 1)) p 0) := by
    have : z_era (M (a + 1)) p 0 = M (a + 1) := by funext k; unfold z_era; rw [if_neg (by omega)]
    rw [this, fx_self]
  refine Ev.memL e0 ?_
  refine Ev.loop 24 (fun c => [fx_f a, .inl (p : Int), .inl (c : Int)]) (fun c => fx_set M (a + 1) (z_era (M (a + 1)) p c)) (fun c hc k => ?_) (r78_6T (by omega) (by omega) r78_18)
  refine r78_6F (by omega) (by omega) (r78_9 S ev_placeOf (r78_14 S (by omega) ?_))
  refine Ev.memL ?_ k
  rw [fx_ss, fx_sk]
  congr 1
  funext q
  unfold fx_up z_era
  have e1 : ((24 * p + c : Nat) : Int).toNat = 24 * p + c := by omega
  rw [e1]
  by_cases h1 : q = 24 * p + c
  · rw [if_pos h1, if_pos (by omega)]
  · rw [if_neg h1]
    by_cases h2 : 24 * p ≤ q ∧ q < 24 * p + c
    · rw [if_pos h2, if_pos (by omega)]
    · rw [if_neg h2, if_neg (by omega)]
theorem ev_link {p e o : Nat} (S : fd_isS a) (hp : p < 6) (he : e < 24) (ho : o < 24) : Ev X 80 0 [fx_f a, .inl (p : Int), .inl (e : Int), .inl (o : Int)] [] M none (fx_set M (a + 1) (z_lnk (M (a + 1)) p e o)) := by
  refine Ev.mem (M1 := fx_set (fx_set M (a + 1) (fx_up (M (a + 1)) (24 * p + e) o)) (a + 1) (fx_up ((fx_set M (a + 1) (fx_up (M (a + 1)) (24 * p + e) o)) (a + 1)) (24 * p + o) e)) (by rw [fx_ss, fx_sk]; rfl) ?_
  exact r80_0 (ev_isPanel_y (by omega)) (r80_2F (by omega) (by omega) (r80_3 (ev_isEnd_y (by omega)) (r80_5F (by omega) (by omega) (r80_6 (ev_isEnd_y (by omega)) (r80_8F (by omega) (by omega) (r80_9 S ev_placeOf (r80_14 S (by omega) ev_placeOf (r80_21 S (by omega)))))))))
theorem ev_unlink {p e o : Nat} (S : fd_isS a) (hp : p < 6) (he : e < 24) (ho : o < 24) : Ev X 85 0 [fx_f a, .inl (p : Int), .inl (e : Int), .inl (o : Int)] [] M none (fx_set M (a + 1) (z_unl (M (a + 1)) p e o)) := by
  refine Ev.mem (M1 := fx_set (fx_set M (a + 1) (fx_up (M (a + 1)) (24 * p + e) (-1))) (a + 1) (fx_up ((fx_set M (a + 1) (fx_up (M (a + 1)) (24 * p + e) (-1))) (a + 1)) (24 * p + o) (-1))) (by rw [fx_ss, fx_sk]; rfl) ?_
  exact r85_0 (ev_isPanel_y (by omega)) (r85_2F (by omega) (by omega) (r85_3 (ev_isEnd_y (by omega)) (r85_5F (by omega) (by omega) (r85_6 (ev_isEnd_y (by omega)) (r85_8F (by omega) (by omega) (r85_9 S ev_placeOf (r85_14 S (by omega) ev_placeOf (r85_21 S (by omega)))))))))
/-- the row 'before' behind liftOff -/
def z_bef (O B : Nat → Int) (p c : Nat) : Nat → Int := fun e => if e < c then O (24 * p + e) else B e
theorem ev_liftOff {p : Nat} (S : pS M a) (hp : p < 6) : Ev X 88 0 [fx_f a, .inl (p : Int), fx_u] [] M none (fx_set (fx_set M (a + 3) (z_bef (M (a + 1)) (M (a + 3)) p 24)) (a + 1) (z_era (M (a + 1)) p 24)) := by
  refine r88_0 ?_
  have e0 : M = fx_set M (a + 3) (z_bef (M (a + 1)) (M (a + 3)) p 0) := by
    have : z_bef (M (a + 1)) (M (a + 3)) p 0 = M (a + 3) := by funext k; unfold z_bef; rw [if_neg (by omega)]
    rw [this, fx_self]
  refine Ev.memL e0 ?_
  refine Ev.loop 24 (fun c => [fx_f a, .inl (p : Int), .inl (c : Int)]) (fun c => fx_set M (a + 3) (z_bef (M (a + 1)) (M (a + 3)) p c)) (fun c hc k => ?_) ?_
  · have S1 : pS (fx_set M (a + 3) (z_bef (M (a + 1)) (M (a + 3)) p c)) a := pS_oth S (by omega) (by omega)
    refine r88_2F (by omega) (by omega) (r88_5 S.1 ev_placeOf (r88_12 S.1 (ev_otherEnd S1 (by omega)) (r88_13 S.1 (by omega) ?_)))
    refine Ev.memL ?_ k
    rw [fx_ss, fx_sk, fx_sn (by omega)]
    congr 1
    funext q
    unfold fx_up z_bef
    have e1 : ((c : Nat) : Int).toNat = c := by omega
    rw [e1]
    by_cases h1 : q = c
    · rw [if_pos h1, if_pos (by omega), h1]
    · rw [if_neg h1]
      by_cases h2 : q < c
      · rw [if_pos h2, if_pos (by omega)]
      · rw [if_neg h2, if_neg (by omega)]
  · refine r88_2T (by omega) (by omega) (r88_16 S.1 (ev_erase S.1 hp) ?_)
    have e2 : (fx_set M (a + 3) (z_bef (M (a + 1)) (M (a + 3)) p 24)) (a + 1) = M (a + 1) := fx_sn (by omega)
    rw [e2]
    exact r88_19
theorem z_lay_0 {mu nu : Int → Int} {O : Nat → Int} {p : Nat} (hr : ∀ k, k < 144 → -1 ≤ O k ∧ O k < 24) (hp : p < 6) : z_lay mu nu O p 0 = z_era O p 24 := by
  funext k
  unfold z_lay z_era
  by_cases h : 24 * p ≤ k ∧ k < 24 * p + 24
  · rw [if_pos h, if_pos h, if_neg]
    rintro ⟨⟨h1, h2, h3⟩, h4⟩
    have hb := hr (24 * p + (nu ((k : Int) - 24 * p)).toNat) (by omega)
    omega
  · rw [if_neg h, if_neg h]
/-- one stroke more is laid -/
theorem z_lay_s {mu nu : Int → Int} {O : Nat → Int} {p c o : Nat} (hi : z_inv O) (hp : p < 6) (hc : c < 24) (ho : O (24 * p + c) = (o : Int)) (hn : ∀ e : Nat, e < 24 → O (24 * p + e) ≠ -1 → nu (mu e) = e ∧ 0 ≤ mu e ∧ mu e < 24)
    (hm : ∀ t : Nat, t < 24 → 0 ≤ nu t → nu t < 24 → O (24 * p + (nu t).toNat) ≠ -1 → mu (nu t) = t) : z_lnk (z_lay mu nu O p c) p (mu c).toNat (mu o).toNat = z_lay mu nu O p (c + 1) := by
  obtain ⟨o', ho1, ho2, ho3, ho4⟩ : ∃ o' : Nat, o' < 24 ∧ o' ≠ c ∧ O (24 * p + c) = (o' : Int) ∧ O (24 * p + o') = (c : Int) := by
    rcases hi p c hp hc with h | h
    · rw [ho] at h; omega
    · exact h
  have hoo : o' = o := by rw [ho] at ho3; omega
  subst hoo
  obtain ⟨n1, n2, n3⟩ := hn c hc (by rw [ho]; omega)
  obtain ⟨m1, m2, m3⟩ := hn o' ho1 (by rw [ho4]; omega)
  funext k
  unfold z_lnk fx_up
  by_cases h1 : k = 24 * p + (mu o').toNat
  · rw [if_pos h1]
    unfold z_lay
    have e1 : (k : Int) - 24 * p = mu o' := by omega
    have e2 : ((o' : Nat) : Int).toNat = o' := by omega
    rw [if_pos (by omega), e1, m1, e2, ho4, if_pos (by omega)]
    omega
  · rw [if_neg h1]
    by_cases h2 : k = 24 * p + (mu c).toNat
    · rw [if_pos h2]
      unfold z_lay
      have e1 : (k : Int) - 24 * p = mu c := by omega
      have e2 : ((c : Nat) : Int).toNat = c := by omega
      rw [if_pos (by omega), e1, n1, e2, ho, if_pos (by omega)]
      omega
    · rw [if_neg h2]
      unfold z_lay
      by_cases h3 : 24 * p ≤ k ∧ k < 24 * p + 24
      · rw [if_pos h3, if_pos h3]
        have hk : (k : Int) - 24 * p = ((k - 24 * p : Nat) : Int) := by omega
        rw [hk]
        by_cases h4 : 0 ≤ nu ((k - 24 * p : Nat) : Int) ∧ nu ((k - 24 * p : Nat) : Int) < 24 ∧ O (24 * p + (nu ((k - 24 * p : Nat) : Int)).toNat) ≠ -1
        · obtain ⟨h5, h6, h7⟩ := h4
          have hmm := hm (k - 24 * p) (by omega) h5 h6 h7
          have hne1 : nu ((k - 24 * p : Nat) : Int) ≠ (c : Int) := fun q => by rw [q] at hmm; omega
          have hne2 : O (24 * p + (nu ((k - 24 * p : Nat) : Int)).toNat) ≠ (c : Int) := fun q => by
            rcases hi p (nu ((k - 24 * p : Nat) : Int)).toNat hp (by omega) with h | ⟨w, w1, w2, w3, w4⟩
            · exact h7 h
            · have : w = c := by omega
              subst this
              rw [ho] at w4
              have : nu ((k - 24 * p : Nat) : Int) = (o' : Int) := by omega
              rw [this] at hmm
              omega
          by_cases h8 : nu ((k - 24 * p : Nat) : Int) < (c : Int) ∨ O (24 * p + (nu ((k - 24 * p : Nat) : Int)).toNat) < (c : Int)
          · rw [if_pos ⟨⟨h5, h6, h7⟩, h8⟩, if_pos ⟨⟨h5, h6, h7⟩, by omega⟩]
          · rw [if_neg (fun q => h8 q.2), if_neg (fun q => h8 (by omega))]
        · rw [if_neg (fun q => h4 q.1), if_neg (fun q => h4 q.1)]
      · rw [if_neg h3, if_neg h3]
theorem z_lay_n {mu nu : Int → Int} {O : Nat → Int} {p c : Nat} (hi : z_inv O) (hp : p < 6) (hc : c < 24) (ho : O (24 * p + c) = -1) : z_lay mu nu O p c = z_lay mu nu O p (c + 1) := by
  funext k
  unfold z_lay
  by_cases h3 : 24 * p ≤ k ∧ k < 24 * p + 24
  · rw [if_pos h3, if_pos h3]
    generalize hnu : nu ((k : Int) - 24 * p) = t
    by_cases h4 : 0 ≤ t ∧ t < 24 ∧ O (24 * p + t.toNat) ≠ -1
    · obtain ⟨h5, h6, h7⟩ := h4
      have hne1 : t ≠ (c : Int) := fun q => h7 (by rw [q]; exact ho)
      have hne2 : O (24 * p + t.toNat) ≠ (c : Int) := fun q => by
        rcases hi p t.toNat hp (by omega) with h | ⟨w, w1, w2, w3, w4⟩
        · exact h7 h
        · have : w = c := by omega
          subst this
          rw [ho] at w4
          omega
      by_cases h8 : t < (c : Int) ∨ O (24 * p + t.toNat) < (c : Int)
      · rw [if_pos ⟨⟨h5, h6, h7⟩, h8⟩, if_pos ⟨⟨h5, h6, h7⟩, by omega⟩]
      · rw [if_neg (fun q => h8 q.2), if_neg (fun q => h8 (by omega))]
    · rw [if_neg (fun q => h4 q.1), if_neg (fun q => h4 q.1)]
  · rw [if_neg h3, if_neg h3]
theorem z_lnk_rg {O : Nat → Int} {p e o : Nat} (h : ∀ k, k < 144 → -1 ≤ O k ∧ O k < 24) (he : e < 24) (ho : o < 24) : ∀ k, k < 144 → -1 ≤ z_lnk O p e o k ∧ z_lnk O p e o k < 24 := by
  intro k hk
  have := h k hk
  unfold z_lnk fx_up
  split
  · omega
  · split <;> omega
end EVV

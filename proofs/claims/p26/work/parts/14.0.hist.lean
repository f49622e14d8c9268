theorem isS1 : fd_isS 1 := ⟨rfl, rfl, rfl, rfl⟩
theorem isS5 : fd_isS 5 := ⟨rfl, rfl, rfl, rfl⟩
theorem z_cpy_self {f g h : Nat → Int} {n : Nat} (h1 : ∀ k, k < n → f k = h k) (h2 : ∀ k, n ≤ k → g k = h k) : z_cpy f g n = h := by
  funext k
  unfold z_cpy
  split
  next hk => exact h1 k hk
  next hk => exact h2 k (by omega)
theorem z_loose_x {P Q : Nat → Bool} (h : zA P Q) : z_loose P = z_loose Q := by
  rw [← z_loose_c, ← z_loose_c]
  exact pb_c_ext fun i hi => by rw [z_how_x h hi]
theorem isS_sl : ∀ a, a < 2 → fd_isS (48 + 4 * a) := by
  intro a ha
  have : a = 0 ∨ a = 1 := by omega
  rcases this with rfl | rfl <;> exact ⟨rfl, rfl, rfl, rfl⟩
theorem at_sl : ∀ a, a < 2 → ([48, 52] : List Nat)[a]? = some (48 + 4 * a) := by
  intro a ha
  have : a = 0 ∨ a = 1 := by omega
  rcases this with rfl | rfl <;> rfl
/-! strokes keep two ends -/
theorem z_inv_lnk {O : Nat → Int} {p e o : Nat} (hi : z_inv O) (he : e < 24) (ho : o < 24) (heo : e ≠ o) (h1 : O (24 * p + e) = -1) (h2 : O (24 * p + o) = -1) : z_inv (z_lnk O p e o) := by
  have v : ∀ k, z_lnk O p e o k = if k = 24 * p + o then (e : Int) else if k = 24 * p + e then (o : Int) else O k := fun k => rfl
  intro q f hq hf
  by_cases c1 : 24 * q + f = 24 * p + o
  · have : q = p := by omega
    subst this
    refine Or.inr ⟨e, he, by omega, by rw [v, if_pos c1], ?_⟩
    rw [v, if_neg (by omega), if_pos rfl]
    omega
  · by_cases c2 : 24 * q + f = 24 * p + e
    · have : q = p := by omega
      subst this
      refine Or.inr ⟨o, ho, by omega, by rw [v, if_neg c1, if_pos c2], ?_⟩
      rw [v, if_pos rfl]
      omega
    · rw [v, if_neg c1, if_neg c2]
      rcases hi q f hq hf with g | ⟨t, t1, t2, t3, t4⟩
      · exact Or.inl g
      · refine Or.inr ⟨t, t1, t2, t3, ?_⟩
        rw [v, if_neg (fun a => by rw [a, h2] at t4; omega), if_neg (fun a => by rw [a, h1] at t4; omega)]
        exact t4
theorem z_inv_unl {O : Nat → Int} {p e o : Nat} (hi : z_inv O) (he : e < 24) (ho : o < 24) (h1 : O (24 * p + e) = (o : Int)) (h2 : O (24 * p + o) = (e : Int)) : z_inv (z_unl O p e o) := by
  have v : ∀ k, z_unl O p e o k = if k = 24 * p + o then (-1 : Int) else if k = 24 * p + e then -1 else O k := fun k => rfl
  intro q f hq hf
  by_cases c1 : 24 * q + f = 24 * p + o
  · exact Or.inl (by rw [v, if_pos c1])
  · by_cases c2 : 24 * q + f = 24 * p + e
    · exact Or.inl (by rw [v, if_neg c1, if_pos c2])
    · rw [v, if_neg c1, if_neg c2]
      rcases hi q f hq hf with g | ⟨t, t1, t2, t3, t4⟩
      · exact Or.inl g
      · refine Or.inr ⟨t, t1, t2, t3, ?_⟩
        rw [v, if_neg (fun a => by rw [a, h2] at t4; omega), if_neg (fun a => by rw [a, h1] at t4; omega)]
        exact t4
theorem z_inv_era {O : Nat → Int} {p : Nat} (hi : z_inv O) : z_inv (z_era O p 24) := by
  intro q f hq hf
  unfold z_era
  by_cases c : 24 * p ≤ 24 * q + f ∧ 24 * q + f < 24 * p + 24
  · exact Or.inl (by rw [if_pos c])
  · rw [if_neg c]
    rcases hi q f hq hf with g | ⟨t, t1, t2, t3, t4⟩
    · exact Or.inl g
    · exact Or.inr ⟨t, t1, t2, t3, by rw [if_neg (by omega)]; exact t4⟩
theorem z_era_rg {O : Nat → Int} {p : Nat} (h : ∀ k, k < 144 → -1 ≤ O k ∧ O k < 24) : ∀ k, k < 144 → -1 ≤ z_era O p 24 k ∧ z_era O p 24 k < 24 := by
  intro k hk
  have := h k hk
  unfold z_era
  split <;> omega
theorem z_swp_v (O : Nat → Int) (p q : Nat) (j : Nat) (hj : j < 24) : z_swp O p q 24 (24 * p + j) = O (24 * q + j) := by
  unfold z_swp
  rw [if_pos (by omega), show 24 * p + j - 24 * p = j by omega]
theorem z_swp_w (O : Nat → Int) {p q : Nat} (hpq : p ≠ q) (j : Nat) (hj : j < 24) : z_swp O p q 24 (24 * q + j) = O (24 * p + j) := by
  unfold z_swp
  rw [if_neg (by omega), if_pos (by omega), show 24 * q + j - 24 * q = j by omega]
theorem z_swp_o (O : Nat → Int) {p q s : Nat} (h1 : s ≠ p) (h2 : s ≠ q) (j : Nat) (hj : j < 24) : z_swp O p q 24 (24 * s + j) = O (24 * s + j) := by
  unfold z_swp
  rw [if_neg (by omega), if_neg (by omega)]
theorem z_inv_swp {O : Nat → Int} {p q : Nat} (hi : z_inv O) (hp : p < 6) (hq : q < 6) (hpq : p ≠ q) : z_inv (z_swp O p q 24) := by
  intro s f hs hf
  by_cases c1 : s = p
  · subst c1
    rw [z_swp_v _ _ _ f hf]
    rcases hi q f hq hf with g | ⟨t, t1, t2, t3, t4⟩
    · exact Or.inl g
    · exact Or.inr ⟨t, t1, t2, t3, by rw [z_swp_v _ _ _ t t1]; exact t4⟩
  · by_cases c2 : s = q
    · subst c2
      rw [z_swp_w _ hpq f hf]
      rcases hi p f hp hf with g | ⟨t, t1, t2, t3, t4⟩
      · exact Or.inl g
      · exact Or.inr ⟨t, t1, t2, t3, by rw [z_swp_w _ hpq t t1]; exact t4⟩
    · rw [z_swp_o _ c1 c2 f hf]
      rcases hi s f hs hf with g | ⟨t, t1, t2, t3, t4⟩
      · exact Or.inl g
      · exact Or.inr ⟨t, t1, t2, t3, by rw [z_swp_o _ c1 c2 t t1]; exact t4⟩
theorem z_swp_rg {O : Nat → Int} {p q : Nat} (hp : p < 6) (hq : q < 6) (h : ∀ k, k < 144 → -1 ≤ O k ∧ O k < 24) : ∀ k, k < 144 → -1 ≤ z_swp O p q 24 k ∧ z_swp O p q 24 k < 24 := by
  intro k hk
  unfold z_swp
  split
  · exact h _ (by omega)
  · split
    · exact h _ (by omega)
    · exact h _ hk
theorem z_lay_v {mu nu : Int → Int} {O : Nat → Int} {p : Nat} (hr : ∀ k, k < 144 → -1 ≤ O k ∧ O k < 24) (hp : p < 6) (j : Nat) (hj : j < 24) : z_lay mu nu O p 24 (24 * p + j) = if 0 ≤ nu j ∧ nu j < 24 ∧ O (24 * p + (nu j).toNat) ≠ -1 then mu (O (24 * p + (nu j).toNat)) else -1 := by
  unfold z_lay
  rw [if_pos (by omega), show (((24 * p + j : Nat) : Int) - 24 * p) = (j : Int) by push_cast; omega]
  by_cases h : 0 ≤ nu j ∧ nu j < 24 ∧ O (24 * p + (nu j).toNat) ≠ -1
  · rw [if_pos ⟨h, Or.inl (by omega)⟩, if_pos h]
  · rw [if_neg (fun q => h q.1), if_neg h]
theorem z_lay_o {mu nu : Int → Int} {O : Nat → Int} {p k c : Nat} (h : ¬ (24 * p ≤ k ∧ k < 24 * p + 24)) : z_lay mu nu O p c k = O k := by
  unfold z_lay
  rw [if_neg h]
theorem z_inv_lay {mu nu : Int → Int} {O : Nat → Int} {p : Nat} (hr : ∀ k, k < 144 → -1 ≤ O k ∧ O k < 24) (hi : z_inv O) (hp : p < 6) (hn : ∀ e : Nat, e < 24 → O (24 * p + e) ≠ -1 → nu (mu e) = e ∧ 0 ≤ mu e ∧ mu e < 24)
    (hm : ∀ t : Nat, t < 24 → 0 ≤ nu t → nu t < 24 → O (24 * p + (nu t).toNat) ≠ -1 → mu (nu t) = t) : z_inv (z_lay mu nu O p 24) := by
  intro s f hs hf
  by_cases c : s = p
  · subst c
    rw [z_lay_v hr hs f hf]
    by_cases h : 0 ≤ nu f ∧ nu f < 24 ∧ O (24 * s + (nu f).toNat) ≠ -1
    · rw [if_pos h]
      obtain ⟨t, t1, t2, t3, t4⟩ : ∃ o : Nat, o < 24 ∧ o ≠ (nu f).toNat ∧ O (24 * s + (nu f).toNat) = (o : Int) ∧ O (24 * s + o) = ((nu f).toNat : Int) := by
        rcases hi s (nu f).toNat hs (by omega) with g | g
        · exact absurd g h.2.2
        · exact g
      obtain ⟨m1, m2, m3⟩ := hn t t1 (by omega)
      have mf := hm f hf h.1 h.2.1 h.2.2
      refine Or.inr ⟨(mu t).toNat, by omega, ?_, by rw [t3]; omega, ?_⟩
      · intro q
        have e1 : mu t = (f : Int) := by omega
        rw [e1] at m1
        omega
      · rw [z_lay_v hr hs _ (by omega), show (((mu t).toNat : Nat) : Int) = mu t by omega, m1, show ((t : Int)).toNat = t by omega, if_pos ⟨by omega, by omega, by omega⟩, t4]
        rw [show (((nu f).toNat : Nat) : Int) = nu f by omega]
        exact mf
    · exact Or.inl (by rw [if_neg h])
  · rw [z_lay_o (by omega)]
    rcases hi s f hs hf with g | ⟨t, t1, t2, t3, t4⟩
    · exact Or.inl g
    · exact Or.inr ⟨t, t1, t2, t3, by rw [z_lay_o (by omega)]; exact t4⟩
theorem z_tku_v (O : Nat → Int) (P : Nat → Bool) (p j : Nat) (hj : j < 12) : z_tku O P p 12 (24 * p + j) = if z_opn P p j = true then 12 + (j : Int) else O (24 * p + j) := by
  unfold z_tku
  rw [show 24 * p + j - 24 * p = j by omega]
  by_cases h : z_opn P p j = true
  · rw [if_pos ⟨by omega, hj, h⟩, if_pos h]
  · rw [if_neg (fun q => h q.2.2), if_neg (by omega), if_neg h]
theorem z_tku_w (O : Nat → Int) (P : Nat → Bool) (p j : Nat) (hj : j < 12) : z_tku O P p 12 (24 * p + 12 + j) = if z_opn P p j = true then (j : Int) else O (24 * p + 12 + j) := by
  unfold z_tku
  rw [show 24 * p + 12 + j - 24 * p - 12 = j by omega, if_neg (by omega)]
  by_cases h : z_opn P p j = true
  · rw [if_pos ⟨by omega, hj, h⟩, if_pos h]
  · rw [if_neg (fun q => h q.2.2), if_neg h]
theorem z_tku_o (O : Nat → Int) (P : Nat → Bool) {p k : Nat} (h : ¬ (24 * p ≤ k ∧ k < 24 * p + 24)) : z_tku O P p 12 k = O k := by
  unfold z_tku
  rw [if_neg (by omega), if_neg (by omega)]
theorem z_inv_tku {O : Nat → Int} {P : Nat → Bool} {p : Nat} (hi : z_inv O) (hp : p < 6) (hP : ∀ k, k < 144 → (P k = false ↔ O k = -1)) : z_inv (z_tku O P p 12) := by
  have op : ∀ j, j < 12 → z_opn P p j = true → O (24 * p + j) = -1 ∧ O (24 * p + 12 + j) = -1 := by
    intro j hj h
    unfold z_opn at h
    rw [Bool.and_eq_true, Bool.and_eq_true, Bool.not_eq_true', Bool.not_eq_true'] at h
    exact ⟨(hP _ (by omega)).mp h.1.2, (hP _ (by omega)).mp h.2⟩
  -- a place that was taken stays
  have keep : ∀ t, t < 24 → O (24 * p + t) ≠ -1 → z_tku O P p 12 (24 * p + t) = O (24 * p + t) := by
    intro t ht h
    by_cases c : t < 12
    · rw [z_tku_v _ _ _ t c, if_neg (fun q => h (op t c q).1)]
    · rw [show 24 * p + t = 24 * p + 12 + (t - 12) by omega, z_tku_w _ _ _ (t - 12) (by omega), if_neg]
      intro q
      have := (op (t - 12) (by omega) q).2
      rw [show 24 * p + 12 + (t - 12) = 24 * p + t by omega] at this
      exact h this
  intro s f hs hf
  by_cases c : s = p
  · subst c
    by_cases c2 : f < 12
    · rw [z_tku_v _ _ _ f c2]
      by_cases h : z_opn P s f = true
      · rw [if_pos h]
        refine Or.inr ⟨12 + f, by omega, by omega, by push_cast; rfl, ?_⟩
        rw [show 24 * s + (12 + f) = 24 * s + 12 + f by omega, z_tku_w _ _ _ f c2, if_pos h]
      · rw [if_neg h]
        rcases hi s f hs hf with g | ⟨t, t1, t2, t3, t4⟩
        · exact Or.inl g
        · exact Or.inr ⟨t, t1, t2, t3, by rw [keep t t1 (by omega)]; exact t4⟩
    · obtain ⟨j, rfl⟩ : ∃ j, f = 12 + j := ⟨f - 12, by omega⟩
      rw [show 24 * s + (12 + j) = 24 * s + 12 + j by omega, z_tku_w _ _ _ j (by omega)]
      by_cases h : z_opn P s j = true
      · rw [if_pos h]
        refine Or.inr ⟨j, by omega, by omega, rfl, ?_⟩
        rw [z_tku_v _ _ _ j (by omega), if_pos h]
        push_cast
        rfl
      · rw [if_neg h]
        rcases hi s (12 + j) hs hf with g | ⟨t, t1, t2, t3, t4⟩
        · exact Or.inl (by rw [show 24 * s + 12 + j = 24 * s + (12 + j) by omega]; exact g)
        · exact Or.inr ⟨t, t1, t2, by rw [show 24 * s + 12 + j = 24 * s + (12 + j) by omega]; exact t3, by rw [keep t t1 (by omega)]; exact t4⟩
  · rw [z_tku_o _ _ (by omega)]
    rcases hi s f hs hf with g | ⟨t, t1, t2, t3, t4⟩
    · exact Or.inl g
    · exact Or.inr ⟨t, t1, t2, t3, by rw [z_tku_o _ _ (by omega)]; exact t4⟩
theorem z_tku_rg {O : Nat → Int} {P : Nat → Bool} {p : Nat} (h : ∀ k, k < 144 → -1 ≤ O k ∧ O k < 24) : ∀ k, k < 144 → -1 ≤ z_tku O P p 12 k ∧ z_tku O P p 12 k < 24 := by
  intro k hk
  have := h k hk
  unfold z_tku
  split
  · omega
  · split <;> omega
/-! the states before -/
theorem isS_st : ∀ a, a < 6 → fd_isS (21 + 4 * a) := by
  intro a ha
  have : a = 0 ∨ a = 1 ∨ a = 2 ∨ a = 3 ∨ a = 4 ∨ a = 5 := by omega
  rcases this with rfl | rfl | rfl | rfl | rfl | rfl <;> exact ⟨rfl, rfl, rfl, rfl⟩
theorem at_st : ∀ a, a < 6 → ([21, 25, 29, 33, 37, 41] : List Nat)[a]? = some (21 + 4 * a) := by
  intro a ha
  have : a = 0 ∨ a = 1 ∨ a = 2 ∨ a = 3 ∨ a = 4 ∨ a = 5 := by omega
  rcases this with rfl | rfl | rfl | rfl | rfl | rfl <;> rfl
def y_rm (M : fx_M) (n a : Nat) : fx_M := fx_set (fx_set (fx_set M (21 + 4 * a + 1) (z_cpy (M 2) (M (21 + 4 * a + 1)) 144)) (21 + 4 * a + 2) (z_cpy (M 3) (M (21 + 4 * a + 2)) 6)) 19 (fx_up (fx_up (M 19) 2 (((a + 1) % 6 : Nat) : Int)) 1 ((min 6 (n + 1) : Nat) : Int))
theorem y_rm_o {M : fx_M} {n a r : Nat} (ha : a < 6) (h : r < 19 ∨ 44 < r) : y_rm M n a r = M r := by
  unfold y_rm
  rw [fx_sn (by omega), fx_sn (by omega), fx_sn (by omega)]
section HST
variable {X : fx_Sc} {M M' : fx_M}
theorem ev_stateAt {a : Nat} (ha : a < 6) : Ev X 192 0 [fx_f 19, .inl (a : Int)] [] M (some (fx_f (21 + 4 * a))) M :=
  r192_0F (by omega) (by omega) (r192_2F (by omega) (by omega) (r192_5 (by rw [show (a : Int).toNat = a by omega]; exact at_st a ha) (by omega)))
theorem ev_remember {n a : Nat} (S : pS M 1) (hn : n ≤ 6) (ha : a < 6) (h1 : M 19 1 = (n : Int)) (h2 : M 19 2 = (a : Int)) : Ev X 38 0 [fx_f 19, fx_f 1, fx_u] [] M none (y_rm M n a) := by
  have e19 : (fx_set (fx_set M (21 + 4 * a + 1) (z_cpy (M 2) (M (21 + 4 * a + 1)) 144)) (21 + 4 * a + 2) (z_cpy (M 3) (M (21 + 4 * a + 2)) 6)) 19 = M 19 := by rw [fx_sn (by omega), fx_sn (by omega)]
  have hrem : fx_rem ((a : Int) + 1) 6 = (((a + 1) % 6 : Nat) : Int) := by
    have := pb_rem (a := a + 1) (d := 6) (by omega) (by omega) (by omega)
    push_cast at this ⊢
    exact this
  refine r38_0 (by rw [h2]; exact ev_stateAt ha) (r38_4 (isS_st a ha) (ev_copyFrom (isS_st a ha) S.1 (by omega)) (Ev.mem ?_ (r38_11 ?_)))
  · rw [fx_ss]
    unfold y_rm
    rw [fx_sk]
    have e1 : fx_up ((fx_set (fx_set M (21 + 4 * a + 1) (z_cpy (M (1 + 1)) (M (21 + 4 * a + 1)) 144)) (21 + 4 * a + 2) (z_cpy (M (1 + 2)) (M (21 + 4 * a + 2)) 6)) 19) 2 (fx_rem ((fx_set (fx_set M (21 + 4 * a + 1) (z_cpy (M (1 + 1)) (M (21 + 4 * a + 1)) 144)) (21 + 4 * a + 2) (z_cpy (M (1 + 2)) (M (21 + 4 * a + 2)) 6)) 19 2 + 1) 6) = fx_up (M 19) 2 (((a + 1) % 6 : Nat) : Int) := by
      show fx_up ((fx_set (fx_set M (21 + 4 * a + 1) (z_cpy (M 2) (M (21 + 4 * a + 1)) 144)) (21 + 4 * a + 2) (z_cpy (M 3) (M (21 + 4 * a + 2)) 6)) 19) 2 (fx_rem ((fx_set (fx_set M (21 + 4 * a + 1) (z_cpy (M 2) (M (21 + 4 * a + 1)) 144)) (21 + 4 * a + 2) (z_cpy (M 3) (M (21 + 4 * a + 2)) 6)) 19 2 + 1) 6) = _
      rw [e19, h2, hrem]
    rw [e1, fx_upn _ _ (by omega), h1]
    have e3 : (if 6 < (n : Int) + 1 then (6 : Int) else (n : Int) + 1) = ((min 6 (n + 1) : Nat) : Int) := by split <;> omega
    rw [e3]
  · rw [fx_sk, fx_upn _ _ (by omega)]
    show -2147483648 ≤ (fx_set (fx_set M (21 + 4 * a + 1) (z_cpy (M 2) (M (21 + 4 * a + 1)) 144)) (21 + 4 * a + 2) (z_cpy (M 3) (M (21 + 4 * a + 2)) 6)) 19 1 + 1 ∧ (fx_set (fx_set M (21 + 4 * a + 1) (z_cpy (M 2) (M (21 + 4 * a + 1)) 144)) (21 + 4 * a + 2) (z_cpy (M 3) (M (21 + 4 * a + 2)) 6)) 19 1 + 1 < 2147483648
    rw [e19, h1]
    omega
end HST
theorem y_rm_1 {M : fx_M} {n a : Nat} : y_rm M n a (21 + 4 * a + 1) = z_cpy (M 2) (M (21 + 4 * a + 1)) 144 := by
  unfold y_rm
  rw [fx_sn (by omega), fx_sn (by omega), fx_sk]
theorem y_rm_2 {M : fx_M} {n a : Nat} : y_rm M n a (21 + 4 * a + 2) = z_cpy (M 3) (M (21 + 4 * a + 2)) 6 := by
  unfold y_rm
  rw [fx_sn (by omega), fx_sk]
theorem y_rm_n {M : fx_M} {n a r : Nat} (h1 : r ≠ 21 + 4 * a + 1) (h2 : r ≠ 21 + 4 * a + 2) (h3 : r ≠ 19) : y_rm M n a r = M r := by
  unfold y_rm
  rw [fx_sn h3, fx_sn h2, fx_sn h1]
theorem y_rm_19 {M : fx_M} {n a : Nat} : y_rm M n a 19 1 = ((min 6 (n + 1) : Nat) : Int) ∧ y_rm M n a 19 2 = (((a + 1) % 6 : Nat) : Int) := by
  unfold y_rm
  rw [fx_sk]
  exact ⟨fx_upk _ _ _, by rw [fx_upn _ _ (by omega), fx_upk]⟩

/-! counting: sums over pairs, one place for one other -/
theorem pb_n_zero {g : Nat → Nat} {n : Nat} (h : ∀ i, i < n → g i = 0) : pb_n g n = 0 := by
  induction n with
  | zero => rfl
  | succ n ih => rw [pb_n, ih (fun i hi => h i (by omega)), h n (by omega)]
theorem pb_n_sw (g : Nat → Nat → Nat) (n m : Nat) : pb_n (fun i => pb_n (fun j => g i j) m) n = pb_n (fun j => pb_n (fun i => g i j) n) m := by
  induction n with
  | zero => exact (pb_n_zero fun _ _ => rfl).symm
  | succ n ih =>
    rw [pb_n, ih, ← pb_n_a]
    exact pb_n_ext fun i _ => by rw [pb_n]
theorem pb_n_one {a v n : Nat} (h : a < n) : pb_n (fun i => if i = a then v else 0) n = v := by
  induction n with
  | zero => omega
  | succ n ih =>
    rw [pb_n]
    by_cases q : a = n
    · subst q
      rw [pb_n_zero fun i hi => by rw [if_neg (by omega)], if_pos rfl]
      omega
    · rw [ih (by omega), if_neg (by omega)]
      exact Nat.add_zero v
theorem pb_c_n (P : Nat → Bool) (n : Nat) : pb_c P n = pb_n (fun i => if P i = true then 1 else 0) n := by
  induction n with
  | zero => rfl
  | succ n ih => rw [pb_c, pb_n, ih]
theorem pb_n_bij {P Q : Nat → Bool} {u v f g : Nat → Nat} {n m : Nat} (hf : ∀ i, i < n → P i = true → f i < m ∧ Q (f i) = true ∧ g (f i) = i) (hg : ∀ j, j < m → Q j = true → g j < n ∧ P (g j) = true ∧ f (g j) = j) (hv : ∀ i, i < n → P i = true → v (f i) = u i) : pb_n (fun i => if P i = true then u i else 0) n = pb_n (fun j => if Q j = true then v j else 0) m := by
  have e1 : pb_n (fun i => if P i = true then u i else 0) n = pb_n (fun i => pb_n (fun j => if P i = true ∧ f i = j then u i else 0) m) n := pb_n_ext fun i hi => by
    by_cases hP : P i = true
    · obtain ⟨h1, h2, h3⟩ := hf i hi hP
      rw [if_pos hP]
      refine (pb_n_one (v := u i) h1).symm.trans ?_
      exact pb_n_ext fun j _ => by
        by_cases q : j = f i
        · rw [if_pos q, if_pos ⟨hP, q.symm⟩]
        · rw [if_neg q, if_neg (fun a => q a.2.symm)]
    · rw [if_neg hP]
      exact (pb_n_zero fun j _ => by rw [if_neg (fun a => hP a.1)]).symm
  rw [e1, pb_n_sw]
  refine pb_n_ext fun j hj => ?_
  by_cases hQ : Q j = true
  · obtain ⟨h1, h2, h3⟩ := hg j hj hQ
    have hvv := hv (g j) h1 h2
    rw [h3] at hvv
    rw [if_pos hQ]
    refine Eq.trans (pb_n_ext fun i hi => ?_) (pb_n_one (v := v j) h1)
    by_cases q : i = g j
    · rw [if_pos q, q, if_pos ⟨h2, h3⟩, hvv]
    · rw [if_neg q, if_neg]
      rintro ⟨a1, a2⟩
      have := (hf i hi a1).2.2
      rw [a2] at this
      exact q this.symm
  · rw [if_neg hQ]
    refine pb_n_zero fun i hi => ?_
    rw [if_neg]
    rintro ⟨a1, a2⟩
    have := (hf i hi a1).2.1
    rw [a2] at this
    exact hQ this
theorem pb_c_bij {P Q : Nat → Bool} {f g : Nat → Nat} {n m : Nat} (hf : ∀ i, i < n → P i = true → f i < m ∧ Q (f i) = true ∧ g (f i) = i) (hg : ∀ j, j < m → Q j = true → g j < n ∧ P (g j) = true ∧ f (g j) = j) : pb_c P n = pb_c Q m := by
  rw [pb_c_n, pb_c_n]
  exact pb_n_bij (u := fun _ => 1) (v := fun _ => 1) hf hg (fun _ _ _ => rfl)
theorem pb_n_upd {g h : Nat → Nat} {p n : Nat} (hp : p < n) (e : ∀ i, i < n → i ≠ p → g i = h i) : pb_n g n + h p = pb_n h n + g p := by
  induction n with
  | zero => omega
  | succ n ih =>
    rw [pb_n, pb_n]
    by_cases q : p = n
    · subst q
      rw [pb_n_ext fun i hi => e i (by omega) (by omega)]
      omega
    · have := ih (by omega) (fun i hi => e i (by omega))
      rw [e n (by omega) (fun a => q a.symm)]
      omega
theorem pb_s_none {P : Nat → Bool} {n : Nat} (h : ∀ i, i < n → P i = false) : pb_s P n = 0 := by
  induction n with
  | zero => rfl
  | succ n ih =>
    rw [pb_s, ih (fun i hi => h i (by omega)), h n (by omega)]
    simp
theorem pb_c_pos {P : Nat → Bool} {k n : Nat} (hk : k < n) (h : P k = true) : 1 ≤ pb_c P n := by
  induction n with
  | zero => omega
  | succ n ih =>
    rw [pb_c]
    by_cases q : k = n
    · subst q
      rw [if_pos h]
      omega
    · have := ih (by omega)
      omega
theorem pb_c_blk (P : Nat → Bool) (n : Nat) : pb_c P (24 * n) = pb_n (fun p => pb_c (fun e => P (24 * p + e)) 24) n := by
  induction n with
  | zero => rfl
  | succ n ih => rw [Nat.mul_succ, pb_c_add, ih, pb_n]
theorem pb_n_mul (g : Nat → Nat) (c n : Nat) : pb_n (fun i => c * g i) n = c * pb_n g n := by
  induction n with
  | zero => rfl
  | succ n ih => rw [pb_n, pb_n, ih, Nat.mul_add]
/-! strokes: two ends each -/
def zp (O : Nat → Int) : Nat → Bool := fun k => decide (O k ≠ -1)
theorem zp_t {O : Nat → Int} {k : Nat} : zp O k = true ↔ O k ≠ -1 := decide_eq_true_iff
theorem zp_f {O : Nat → Int} {k : Nat} : zp O k = false ↔ O k = -1 := by
  unfold zp
  rw [decide_eq_false_iff_not, Classical.not_not]
theorem inv_at {O : Nat → Int} {p e : Nat} (hi : z_inv O) (hp : p < 6) (he : e < 24) (h : O (24 * p + e) ≠ -1) : ∃ o : Nat, o < 24 ∧ o ≠ e ∧ O (24 * p + e) = (o : Int) ∧ O (24 * p + o) = (e : Int) := by
  rcases hi p e hp he with q | q
  · exact absurd q h
  · exact q
theorem half_n {O : Nat → Int} {p : Nat} {F : Nat → Nat} (hi : z_inv O) (hp : p < 6) (hF : ∀ e : Nat, e < 24 → ∀ o : Nat, o < 24 → O (24 * p + e) = (o : Int) → O (24 * p + o) = (e : Int) → F o = F e) :
    pb_n (fun e => if zp O (24 * p + e) = true then F e else 0) 24 = 2 * pb_n (fun e => if decide ((e : Int) < O (24 * p + e)) = true then F e else 0) 24 := by
  have e1 : pb_n (fun e => if zp O (24 * p + e) = true then F e else 0) 24 = pb_n (fun e => if decide ((e : Int) < O (24 * p + e)) = true then F e else 0) 24 + pb_n (fun e => if (decide (O (24 * p + e) ≠ -1) && decide (O (24 * p + e) < (e : Int))) = true then F e else 0) 24 := by
    rw [← pb_n_a]
    refine pb_n_ext fun e he => ?_
    by_cases h : O (24 * p + e) = -1
    · rw [if_neg (by rw [zp_t]; omega), if_neg (by rw [decide_eq_true_iff]; omega), if_neg (by simp [h])]
    · obtain ⟨o, o1, o2, o3, o4⟩ := inv_at hi hp he h
      rw [if_pos (zp_t.mpr h)]
      by_cases hl : (e : Int) < O (24 * p + e)
      · rw [if_pos (decide_eq_true hl), if_neg (by rw [Bool.and_eq_true, decide_eq_true_iff, decide_eq_true_iff]; omega)]
        rfl
      · rw [if_neg (by rw [decide_eq_true_iff]; exact hl), if_pos (by rw [Bool.and_eq_true, decide_eq_true_iff, decide_eq_true_iff]; omega)]
        omega
  have e2 : pb_n (fun e => if decide ((e : Int) < O (24 * p + e)) = true then F e else 0) 24 = pb_n (fun e => if (decide (O (24 * p + e) ≠ -1) && decide (O (24 * p + e) < (e : Int))) = true then F e else 0) 24 := by
    refine pb_n_bij (P := fun e => decide ((e : Int) < O (24 * p + e))) (Q := fun e => (decide (O (24 * p + e) ≠ -1) && decide (O (24 * p + e) < (e : Int)))) (f := fun e => (O (24 * p + e)).toNat) (g := fun e => (O (24 * p + e)).toNat) (fun e he hP => ?_) (fun e he hQ => ?_) (fun e he hP => ?_)
    · have hP := of_decide_eq_true hP
      obtain ⟨o, o1, o2, o3, o4⟩ := inv_at hi hp he (by omega)
      have eo : (O (24 * p + e)).toNat = o := by omega
      show (O (24 * p + e)).toNat < 24 ∧ (decide (O (24 * p + (O (24 * p + e)).toNat) ≠ -1) && decide (O (24 * p + (O (24 * p + e)).toNat) < (((O (24 * p + e)).toNat : Nat) : Int))) = true ∧ (O (24 * p + (O (24 * p + e)).toNat)).toNat = e
      rw [eo, Bool.and_eq_true, decide_eq_true_iff, decide_eq_true_iff]
      omega
    · simp only [Bool.and_eq_true, decide_eq_true_iff] at hQ
      obtain ⟨o, o1, o2, o3, o4⟩ := inv_at hi hp he hQ.1
      have eo : (O (24 * p + e)).toNat = o := by omega
      show (O (24 * p + e)).toNat < 24 ∧ decide ((((O (24 * p + e)).toNat : Nat) : Int) < O (24 * p + (O (24 * p + e)).toNat)) = true ∧ (O (24 * p + (O (24 * p + e)).toNat)).toNat = e
      rw [eo, decide_eq_true_iff]
      omega
    · have hP := of_decide_eq_true hP
      obtain ⟨o, o1, o2, o3, o4⟩ := inv_at hi hp he (by omega)
      have eo : (O (24 * p + e)).toNat = o := by omega
      show F (O (24 * p + e)).toNat = F e
      rw [eo]
      exact hF e he o o1 o3 o4
  omega
theorem str_two {O : Nat → Int} {p : Nat} (hi : z_inv O) (hp : p < 6) : pb_c (fun e => zp O (24 * p + e)) 24 = 2 * z_str (zp O) p := by
  have h := half_n (F := fun _ => 1) hi hp (fun _ _ _ _ _ _ => rfl)
  rw [← pb_c_n (fun e => zp O (24 * p + e))] at h
  unfold z_str
  omega
theorem strs_two {O : Nat → Int} (hi : z_inv O) : pb_c (zp O) 144 = 2 * pb_n (z_str (zp O)) 6 := by
  rw [show 144 = 24 * 6 from rfl, pb_c_blk, ← pb_n_mul]
  exact pb_n_ext fun p hp => str_two hi hp
/-! strokes, behind a change -/
theorem str_lnk {O : Nat → Int} {p e o : Nat} (he : e < 24) (ho : o < 24) (heo : e ≠ o) (h1 : O (24 * p + e) = -1) (h2 : O (24 * p + o) = -1) : z_str (zp (z_lnk O p e o)) p = z_str (zp O) p + 1 := by
  have v : ∀ k, z_lnk O p e o k = if k = 24 * p + o then (e : Int) else if k = 24 * p + e then (o : Int) else O k := fun k => rfl
  have e1 : pb_c (fun k => zp (z_lnk O p e o) (24 * p + k)) 24 = pb_c (fun k => (zp O (24 * p + k) || k == e) || k == o) 24 := pb_c_ext fun k hk => by
    rw [Bool.eq_iff_iff, Bool.or_eq_true, Bool.or_eq_true, zp_t, zp_t, beq_iff_eq, beq_iff_eq, v]
    by_cases q1 : k = o
    · subst q1
      rw [if_pos rfl]
      exact ⟨fun _ => Or.inr rfl, fun _ => by omega⟩
    · rw [if_neg (by omega)]
      by_cases q2 : k = e
      · subst q2
        rw [if_pos rfl]
        exact ⟨fun _ => Or.inl (Or.inr rfl), fun _ => by omega⟩
      · rw [if_neg (by omega)]
        exact ⟨fun h => Or.inl (Or.inl h), fun h => by rcases h with (h | h) | h; exact h; exact absurd h q2; exact absurd h q1⟩
  have f1 : zp O (24 * p + e) = false := zp_f.mpr h1
  have f2 : zp O (24 * p + o) = false := zp_f.mpr h2
  unfold z_str
  rw [e1, pb_c_one (P := fun k => zp O (24 * p + k) || k == e) ho (by rw [f2, Bool.false_or]; simp; omega), pb_c_one (P := fun k => zp O (24 * p + k)) he f1]
  omega
theorem str_unl {O : Nat → Int} {p e o : Nat} (he : e < 24) (ho : o < 24) (heo : e ≠ o) (h1 : O (24 * p + e) ≠ -1) (h2 : O (24 * p + o) ≠ -1) : z_str (zp (z_unl O p e o)) p + 1 = z_str (zp O) p := by
  have v : ∀ k, z_unl O p e o k = if k = 24 * p + o then (-1 : Int) else if k = 24 * p + e then -1 else O k := fun k => rfl
  have e1 : pb_c (fun k => zp O (24 * p + k)) 24 = pb_c (fun k => (zp (z_unl O p e o) (24 * p + k) || k == e) || k == o) 24 := pb_c_ext fun k hk => by
    rw [Bool.eq_iff_iff, Bool.or_eq_true, Bool.or_eq_true, zp_t, zp_t, beq_iff_eq, beq_iff_eq, v]
    by_cases q1 : k = o
    · subst q1
      exact ⟨fun _ => Or.inr rfl, fun _ => h2⟩
    · rw [if_neg (by omega)]
      by_cases q2 : k = e
      · subst q2
        exact ⟨fun _ => Or.inl (Or.inr rfl), fun _ => h1⟩
      · rw [if_neg (by omega)]
        exact ⟨fun h => Or.inl (Or.inl h), fun h => by rcases h with (h | h) | h; exact h; exact absurd h q2; exact absurd h q1⟩
  have f1 : zp (z_unl O p e o) (24 * p + e) = false := zp_f.mpr (by rw [v, if_neg (by omega), if_pos rfl])
  have f2 : zp (z_unl O p e o) (24 * p + o) = false := zp_f.mpr (by rw [v, if_pos rfl])
  unfold z_str
  rw [e1, pb_c_one (P := fun k => zp (z_unl O p e o) (24 * p + k) || k == e) ho (by rw [f2, Bool.false_or]; simp; omega), pb_c_one (P := fun k => zp (z_unl O p e o) (24 * p + k)) he f1]
  omega
theorem str_same {O O' : Nat → Int} {q : Nat} (h : ∀ e, e < 24 → O' (24 * q + e) = O (24 * q + e)) : z_str (zp O') q = z_str (zp O) q := by
  have e1 : ∀ e, e < 24 → zp O' (24 * q + e) = zp O (24 * q + e) := fun e he => by unfold zp; rw [h e he]
  unfold z_str
  rw [pb_c_ext e1]
theorem strs_upd {O O' : Nat → Int} {p : Nat} (hp : p < 6) (h : ∀ k, ¬ (24 * p ≤ k ∧ k < 24 * p + 24) → O' k = O k) : pb_n (z_str (zp O')) 6 + z_str (zp O) p = pb_n (z_str (zp O)) 6 + z_str (zp O') p :=
  pb_n_upd hp fun i hi hne => str_same fun e he => h _ (by omega)
theorem str_era {O : Nat → Int} {p : Nat} : z_str (zp (z_era O p 24)) p = 0 := by
  unfold z_str
  rw [pb_c_none fun e he => by
    rw [zp_f]
    unfold z_era
    rw [if_pos (by omega)]]
theorem z_lay_ph {mu nu : Int → Int} {O : Nat → Int} {p j : Nat} (hr : ∀ k, k < 144 → -1 ≤ O k ∧ O k < 24) (hi : z_inv O) (hp : p < 6) (hn : ∀ e : Nat, e < 24 → O (24 * p + e) ≠ -1 → nu (mu e) = e ∧ 0 ≤ mu e ∧ mu e < 24) (hj : j < 24) : zp (z_lay mu nu O p 24) (24 * p + j) = true ↔ 0 ≤ nu j ∧ nu j < 24 ∧ O (24 * p + (nu j).toNat) ≠ -1 := by
  rw [zp_t, z_lay_v hr hp j hj]
  by_cases h : 0 ≤ nu j ∧ nu j < 24 ∧ O (24 * p + (nu j).toNat) ≠ -1
  · rw [if_pos h]
    obtain ⟨o, o1, o2, o3, o4⟩ := inv_at hi hp (by omega) h.2.2
    have := hn o o1 (by omega)
    exact ⟨fun _ => h, fun _ => by rw [o3]; omega⟩
  · rw [if_neg h]
    exact ⟨fun q => absurd rfl q, fun q => absurd q h⟩
theorem str_lay {mu nu : Int → Int} {O : Nat → Int} {p : Nat} (hr : ∀ k, k < 144 → -1 ≤ O k ∧ O k < 24) (hi : z_inv O) (hp : p < 6) (hn : ∀ e : Nat, e < 24 → O (24 * p + e) ≠ -1 → nu (mu e) = e ∧ 0 ≤ mu e ∧ mu e < 24)
    (hm : ∀ t : Nat, t < 24 → 0 ≤ nu t → nu t < 24 → O (24 * p + (nu t).toNat) ≠ -1 → mu (nu t) = t) : z_str (zp (z_lay mu nu O p 24)) p = z_str (zp O) p := by
  unfold z_str
  congr 1
  refine (pb_c_bij (f := fun e => (mu e).toNat) (g := fun t => (nu t).toNat) (fun e he hP => ?_) (fun t ht hQ => ?_)).symm
  · have h1 := zp_t.mp hP
    obtain ⟨m1, m2, m3⟩ := hn e he h1
    show (mu e).toNat < 24 ∧ zp (z_lay mu nu O p 24) (24 * p + (mu e).toNat) = true ∧ (nu ((mu e).toNat : Int)).toNat = e
    have c : (((mu e).toNat : Nat) : Int) = mu e := by omega
    rw [z_lay_ph hr hi hp hn (by omega), c, m1, show ((e : Int)).toNat = e by omega]
    exact ⟨by omega, ⟨by omega, by omega, h1⟩, rfl⟩
  · rw [z_lay_ph hr hi hp hn ht] at hQ
    show (nu t).toNat < 24 ∧ zp O (24 * p + (nu t).toNat) = true ∧ (mu ((nu t).toNat : Int)).toNat = t
    have c : (((nu t).toNat : Nat) : Int) = nu t := by omega
    rw [c, hm t ht hQ.1 hQ.2.1 hQ.2.2, zp_t]
    exact ⟨by omega, hQ.2.2, by omega⟩
theorem strs_swp {O : Nat → Int} {p q : Nat} (hp : p < 6) (hq : q < 6) (hpq : p ≠ q) : pb_n (z_str (zp (z_swp O p q 24))) 6 = pb_n (z_str (zp O)) 6 := by
  have h := pb_n_bij (P := fun _ => true) (Q := fun _ => true) (u := z_str (zp (z_swp O p q 24))) (v := z_str (zp O)) (f := fun i => if i = p then q else if i = q then p else i) (g := fun i => if i = p then q else if i = q then p else i) (n := 6) (m := 6)
    (fun i hi _ => ⟨by show (if i = p then q else if i = q then p else i) < 6; split; exact hq; split; exact hp; exact hi, rfl, by
      show (if (if i = p then q else if i = q then p else i) = p then q else if (if i = p then q else if i = q then p else i) = q then p else (if i = p then q else if i = q then p else i)) = i
      by_cases a : i = p
      · rw [if_pos a, if_neg (by omega), if_pos rfl, a]
      · rw [if_neg a]
        by_cases b : i = q
        · rw [if_pos b, if_pos rfl, b]
        · rw [if_neg b, if_neg a, if_neg b]⟩)
    (fun i hi _ => ⟨by show (if i = p then q else if i = q then p else i) < 6; split; exact hq; split; exact hp; exact hi, rfl, by
      show (if (if i = p then q else if i = q then p else i) = p then q else if (if i = p then q else if i = q then p else i) = q then p else (if i = p then q else if i = q then p else i)) = i
      by_cases a : i = p
      · rw [if_pos a, if_neg (by omega), if_pos rfl, a]
      · rw [if_neg a]
        by_cases b : i = q
        · rw [if_pos b, if_pos rfl, b]
        · rw [if_neg b, if_neg a, if_neg b]⟩)
    (fun i hi _ => by
      show z_str (zp O) (if i = p then q else if i = q then p else i) = z_str (zp (z_swp O p q 24)) i
      unfold z_str
      by_cases a : i = p
      · subst a
        have e1 : ∀ e, e < 24 → zp O (24 * q + e) = zp (z_swp O i q 24) (24 * i + e) := fun e he => by unfold zp; rw [z_swp_v O i q e he]
        rw [if_pos rfl, pb_c_ext e1]
      · rw [if_neg a]
        by_cases b : i = q
        · subst b
          have e1 : ∀ e, e < 24 → zp O (24 * p + e) = zp (z_swp O p i 24) (24 * i + e) := fun e he => by unfold zp; rw [z_swp_w O hpq e he]
          rw [if_pos rfl, pb_c_ext e1]
        · have e1 : ∀ e, e < 24 → zp O (24 * i + e) = zp (z_swp O p q 24) (24 * i + e) := fun e he => by unfold zp; rw [z_swp_o O a b e he]
          rw [if_neg b, pb_c_ext e1])
  simp only [if_true] at h
  exact h
theorem str_tku {O : Nat → Int} {p : Nat} : z_str (zp (z_tku O (zp O) p 12)) p = z_str (zp O) p + pb_c (z_opn (zp O) p) 12 := by
  have op : ∀ j, z_opn (zp O) p j = true → zp O (24 * p + j) = false ∧ zp O (24 * p + 12 + j) = false := by
    intro j h
    unfold z_opn at h
    rw [Bool.and_eq_true, Bool.and_eq_true, Bool.not_eq_true', Bool.not_eq_true'] at h
    exact ⟨h.1.2, h.2⟩
  have e1 : pb_c (fun c => zp (z_tku O (zp O) p 12) (24 * p + c)) 12 = pb_c (fun c => zp O (24 * p + c)) 12 + pb_c (z_opn (zp O) p) 12 := by
    have a := pb_c_or (fun c => zp O (24 * p + c)) (z_opn (zp O) p) 12
    have b : pb_c (fun c => zp O (24 * p + c) && z_opn (zp O) p c) 12 = 0 := pb_c_none fun c hc => by
      cases ho : z_opn (zp O) p c
      · rw [Bool.and_false]
      · rw [(op c ho).1]; rfl
    have d : pb_c (fun c => zp (z_tku O (zp O) p 12) (24 * p + c)) 12 = pb_c (fun c => zp O (24 * p + c) || z_opn (zp O) p c) 12 := pb_c_ext fun c hc => by
      rw [Bool.eq_iff_iff, zp_t, z_tku_v O (zp O) p c hc, Bool.or_eq_true, zp_t]
      by_cases ho : z_opn (zp O) p c = true
      · rw [if_pos ho]
        exact ⟨fun _ => Or.inr ho, fun _ => by omega⟩
      · rw [if_neg ho]
        exact ⟨fun h => Or.inl h, fun h => by rcases h with h | h; exact h; exact absurd h ho⟩
    omega
  have e2 : pb_c (fun c => zp (z_tku O (zp O) p 12) (24 * p + (12 + c))) 12 = pb_c (fun c => zp O (24 * p + (12 + c))) 12 + pb_c (z_opn (zp O) p) 12 := by
    have a := pb_c_or (fun c => zp O (24 * p + (12 + c))) (z_opn (zp O) p) 12
    have b : pb_c (fun c => zp O (24 * p + (12 + c)) && z_opn (zp O) p c) 12 = 0 := pb_c_none fun c hc => by
      cases ho : z_opn (zp O) p c
      · rw [Bool.and_false]
      · rw [← Nat.add_assoc, (op c ho).2]; rfl
    have d : pb_c (fun c => zp (z_tku O (zp O) p 12) (24 * p + (12 + c))) 12 = pb_c (fun c => zp O (24 * p + (12 + c)) || z_opn (zp O) p c) 12 := pb_c_ext fun c hc => by
      rw [Bool.eq_iff_iff, zp_t, ← Nat.add_assoc, z_tku_w O (zp O) p c hc, Bool.or_eq_true, zp_t]
      by_cases ho : z_opn (zp O) p c = true
      · rw [if_pos ho]
        exact ⟨fun _ => Or.inr ho, fun _ => by omega⟩
      · rw [if_neg ho]
        exact ⟨fun h => Or.inl h, fun h => by rcases h with h | h; exact h; exact absurd h ho⟩
    omega
  unfold z_str
  rw [show (24 : Nat) = 12 + 12 from rfl, pb_c_add, pb_c_add]
  simp only [show (12 : Nat) + 12 = 24 from rfl]
  omega
theorem tku_done {O : Nat → Int} {p : Nat} (hp0 : 0 < p) (hp : p < 6) : z_f0 (zp (z_tku O (zp O) p 12)) (p - 1) &&& pb_s (z_opn (zp O) p) 12 = 0 := by
  unfold z_f0
  rw [pb_s_and]
  refine pb_s_none fun c hc => ?_
  cases ho : z_opn (zp O) p c
  · rw [Bool.and_false]
  · have : zp (z_tku O (zp O) p 12) (24 * (p - 1) + 24 + c) = true := by
      rw [show 24 * (p - 1) + 24 + c = 24 * p + c by omega, zp_t, z_tku_v O (zp O) p c hc, if_pos ho]
      omega
    rw [this]
    simp

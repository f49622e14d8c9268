/-! lines, as parts of a graph: a place is joined to the other end of its stroke, and to its neighbour -/
def zr (O : Nat → Int) : Prop := (∀ k, k < 144 → -1 ≤ O k ∧ O k < 24) ∧ z_inv O
def zo (O : Nat → Int) (k : Nat) : Nat := 24 * (k / 24) + (O k).toNat
def zP (O : Nat → Int) (k : Nat) : Prop := k < 144 ∧ O k ≠ -1
theorem zo_of {O : Nat → Int} (h : zr O) {k : Nat} (hk : zP O k) : zP O (zo O k) ∧ zo O k ≠ k ∧ zo O (zo O k) = k ∧ zo O k / 24 = k / 24 ∧ O k = ((zo O k % 24 : Nat) : Int) ∧ O (zo O k) = ((k % 24 : Nat) : Int) := by
  obtain ⟨h1, h2⟩ := hk
  have h3 := h.2 (k / 24) (k % 24) (by omega) (by omega)
  rw [show 24 * (k / 24) + k % 24 = k by omega] at h3
  rcases h3 with h3 | ⟨o, o1, o2, o3, o4⟩
  · exact absurd h3 h2
  · have e1 : zo O k = 24 * (k / 24) + o := by unfold zo; rw [o3]; omega
    have e2 : zo O (zo O k) = k := by
      rw [e1]
      unfold zo
      rw [o4]
      omega
    rw [e1] at e2 ⊢
    exact ⟨⟨by omega, by rw [o4]; omega⟩, by omega, e2, by omega, by rw [o3]; omega, o4⟩
theorem pn_sym {k j : Nat} (hk : k < 144) (h : pn k = (j : Int)) : j < 144 ∧ j ≠ k ∧ pn j = (k : Int) := by
  unfold pn at h ⊢
  split at h
  · split at h
    · have : j = k - 12 := by omega
      subst this
      refine ⟨by omega, by omega, ?_⟩
      rw [if_neg (by omega), if_pos (by omega)]
      omega
    · omega
  · split at h
    · have : j = k + 12 := by omega
      subst this
      refine ⟨by omega, by omega, ?_⟩
      rw [if_pos (by omega), if_pos (by omega)]
      omega
    · omega
/-- what is reached in n steps -/
def zrch (O : Nat → Int) (a : Nat) : Nat → Nat → Prop
  | 0, k => k = a
  | n + 1, k => zrch O a n k ∨ (∃ j, zrch O a n j ∧ k = zo O j) ∨ (∃ j, zrch O a n j ∧ pn j = (k : Int) ∧ zP O k)
def zc (O : Nat → Int) (a k : Nat) : Prop := ∃ n, zrch O a n k
/-- nothing leads out -/
def zcl (O : Nat → Int) (S : Nat → Prop) : Prop := ∀ k, S k → S (zo O k) ∧ ∀ j : Nat, pn k = (j : Int) → zP O j → S j
theorem zc_self (O : Nat → Int) (a : Nat) : zc O a a := ⟨0, rfl⟩
theorem zc_cl (O : Nat → Int) (a : Nat) : zcl O (zc O a) := by
  rintro k ⟨n, hn⟩
  exact ⟨⟨n + 1, Or.inr (Or.inl ⟨k, hn, rfl⟩)⟩, fun j hj hP => ⟨n + 1, Or.inr (Or.inr ⟨k, hn, hj, hP⟩)⟩⟩
theorem zc_sub {O : Nat → Int} {a : Nat} {S : Nat → Prop} (h : zcl O S) (ha : S a) {k : Nat} (hk : zc O a k) : S k := by
  obtain ⟨n, hn⟩ := hk
  induction n generalizing k with
  | zero => rw [show k = a from hn]; exact ha
  | succ n ih =>
    rcases hn with hn | ⟨j, hj, rfl⟩ | ⟨j, hj, hp, hP⟩
    · exact ih hn
    · exact (h j (ih hj)).1
    · exact (h j (ih hj)).2 k hp hP
theorem zc_P {O : Nat → Int} (h : zr O) {a k : Nat} (ha : zP O a) (hk : zc O a k) : zP O k := by
  refine zc_sub (S := zP O) ?_ ha hk
  intro k hk
  exact ⟨(zo_of h hk).1, fun j _ hP => hP⟩
/-- what isn't in a line stays out of it -/
theorem zc_out {O : Nat → Int} (h : zr O) {a s k : Nat} (ha : zP O a) (hs : ¬ zc O s a) (hk : zc O a k) : ¬ zc O s k := by
  have key : zP O k ∧ ¬ zc O s k := by
    refine zc_sub (S := fun q => zP O q ∧ ¬ zc O s q) ?_ ⟨ha, hs⟩ hk
    rintro q ⟨hq, hn⟩
    obtain ⟨g1, g2, g3, g4, -⟩ := zo_of h hq
    refine ⟨⟨g1, fun hz => hn ?_⟩, fun j hj hP => ⟨hP, fun hz => hn ?_⟩⟩
    · have := (zc_cl O s _ hz).1
      rwa [g3] at this
    · exact (zc_cl O s _ hz).2 q (pn_sym hq.1 hj).2.2 hq
  exact key.2
/-- a part of the line of a, with two ends u and v beyond which nothing of it lies -/
def zI (O : Nat → Int) (a : Nat) (S : Nat → Prop) (u v : Nat) : Prop := (∀ k, S k → zc O a k) ∧ S a ∧ (∀ k, S k → zP O k ∧ S (zo O k)) ∧ S u ∧ S v ∧ u ≠ v ∧ (∀ k, S k → k ≠ u → k ≠ v → ∃ j : Nat, pn k = (j : Int) ∧ S j ∧ j ≠ u ∧ j ≠ v)
theorem zI_0 {O : Nat → Int} (h : zr O) {a : Nat} (ha : zP O a) : zI O a (fun k => k = a ∨ k = zo O a) (zo O a) a := by
  obtain ⟨g1, g2, g3, g4, -⟩ := zo_of h ha
  refine ⟨?_, Or.inl rfl, ?_, Or.inr rfl, Or.inl rfl, g2, ?_⟩
  · rintro k (rfl | rfl)
    · exact zc_self O k
    · exact (zc_cl O a a (zc_self O a)).1
  · rintro k (rfl | rfl)
    · exact ⟨ha, Or.inr rfl⟩
    · exact ⟨g1, Or.inl g3⟩
  · rintro k (rfl | rfl) h1 h2
    · exact absurd rfl h2
    · exact absurd rfl h1
theorem zI_sym {O : Nat → Int} {a : Nat} {S : Nat → Prop} {u v : Nat} (h : zI O a S u v) : zI O a S v u := by
  obtain ⟨h1, h2, h3, h4, h5, h6, h7⟩ := h
  refine ⟨h1, h2, h3, h5, h4, Ne.symm h6, fun k hk q1 q2 => ?_⟩
  obtain ⟨j, g1, g2, g3, g4⟩ := h7 k hk q2 q1
  exact ⟨j, g1, g2, g4, g3⟩
theorem zI_s {O : Nat → Int} (h : zr O) {a : Nat} {S : Nat → Prop} {u v j : Nat} (hI : zI O a S u v) (hj : pn u = (j : Int)) (hP : zP O j) (hjv : j ≠ v) :
    ¬ S j ∧ ¬ S (zo O j) ∧ zc O a j ∧ zI O a (fun k => S k ∨ k = j ∨ k = zo O j) (zo O j) v := by
  obtain ⟨h1, h2, h3, h4, h5, h6, h7⟩ := hI
  have hu := (h3 u h4).1
  obtain ⟨p1, p2, p3⟩ := pn_sym hu.1 hj
  have hnj : ¬ S j := by
    intro hS
    obtain ⟨w, w1, w2, w3, w4⟩ := h7 j hS p2 hjv
    rw [p3] at w1
    omega
  obtain ⟨g1, g2, g3, g4, -⟩ := zo_of h hP
  have hno : ¬ S (zo O j) := by
    intro hS
    have := (h3 _ hS).2
    rw [g3] at this
    exact hnj this
  have hcj : zc O a j := (zc_cl O a u (h1 u h4)).2 j hj hP
  refine ⟨hnj, hno, hcj, ?_, Or.inl h2, ?_, Or.inr (Or.inr rfl), Or.inl h5, fun q => hno (by rw [q]; exact h5), ?_⟩
  · rintro k (hk | rfl | rfl)
    · exact h1 k hk
    · exact hcj
    · exact (zc_cl O a j hcj).1
  · rintro k (hk | rfl | rfl)
    · exact ⟨(h3 k hk).1, Or.inl (h3 k hk).2⟩
    · exact ⟨hP, Or.inr (Or.inr rfl)⟩
    · exact ⟨g1, Or.inr (Or.inl g3)⟩
  · rintro k (hk | rfl | rfl) q1 q2
    · by_cases hku : k = u
      · subst hku
        exact ⟨j, hj, Or.inr (Or.inl rfl), fun q => g2 q.symm, hjv⟩
      · obtain ⟨w, w1, w2, w3, w4⟩ := h7 k hk hku q2
        exact ⟨w, w1, Or.inl w2, fun q => hno (by rw [← q]; exact w2), w4⟩
    · exact ⟨u, p3, Or.inl h4, fun q => hno (by rw [← q]; exact h4), h6⟩
    · exact absurd rfl q1
/-- beyond an end there is nothing -/
def zopen (O : Nat → Int) (u : Nat) : Prop := ∀ j : Nat, pn u = (j : Int) → ¬ zP O j
theorem zI_open {O : Nat → Int} {a : Nat} {S : Nat → Prop} {u v : Nat} (hI : zI O a S u v) (hu : zopen O u) (hv : zopen O v) : ∀ k, S k ↔ zc O a k := by
  obtain ⟨h1, h2, h3, h4, h5, h6, h7⟩ := hI
  have hcl : zcl O S := by
    intro k hk
    refine ⟨(h3 k hk).2, fun j hj hP => ?_⟩
    by_cases q1 : k = u
    · subst q1; exact absurd hP (hu j hj)
    · by_cases q2 : k = v
      · subst q2; exact absurd hP (hv j hj)
      · obtain ⟨w, w1, w2, -⟩ := h7 k hk q1 q2
        rw [hj] at w1
        rw [show j = w by omega]
        exact w2
  exact fun k => ⟨h1 k, fun hk => zc_sub hcl h2 hk⟩
theorem zI_loop {O : Nat → Int} (h : zr O) {a : Nat} {S : Nat → Prop} {u v : Nat} (hI : zI O a S u v) (huv : pn u = (v : Int)) : ∀ k, S k ↔ zc O a k := by
  obtain ⟨h1, h2, h3, h4, h5, h6, h7⟩ := hI
  have hvu := (pn_sym (h3 u h4).1.1 huv).2.2
  have hcl : zcl O S := by
    intro k hk
    refine ⟨(h3 k hk).2, fun j hj hP => ?_⟩
    by_cases q1 : k = u
    · subst q1
      rw [huv] at hj
      rw [show j = v by omega]
      exact h5
    · by_cases q2 : k = v
      · subst q2
        rw [hvu] at hj
        rw [show j = u by omega]
        exact h4
      · obtain ⟨w, w1, w2, -⟩ := h7 k hk q1 q2
        rw [hj] at w1
        rw [show j = w by omega]
        exact w2
  exact fun k => ⟨h1 k, fun hk => zc_sub hcl h2 hk⟩
/-- both ends of a line that is no loop; only they are open -/
def zends (O : Nat → Int) (a u v : Nat) : Prop := u < v ∧ zc O a u ∧ zc O a v ∧ zopen O u ∧ zopen O v ∧ ∀ k, zc O a k → zopen O k → k = u ∨ k = v
def zloop (O : Nat → Int) (a : Nat) : Prop := ∀ k, zc O a k → ¬ zopen O k
theorem zends_of {O : Nat → Int} {a : Nat} {S : Nat → Prop} {u v : Nat} (hI : zI O a S u v) (hu : zopen O u) (hv : zopen O v) : zends O a (min u v) (max u v) := by
  have hS := zI_open hI hu hv
  obtain ⟨h1, h2, h3, h4, h5, h6, h7⟩ := hI
  have hall : ∀ k, zc O a k → zopen O k → k = u ∨ k = v := by
    intro k hk ho
    by_cases q1 : k = u
    · exact Or.inl q1
    · by_cases q2 : k = v
      · exact Or.inr q2
      · obtain ⟨w, w1, w2, -⟩ := h7 k ((hS k).mpr hk) q1 q2
        exact absurd (h3 w w2).1 (ho w w1)
  rcases Nat.lt_or_gt_of_ne h6 with hl | hl
  · rw [Nat.min_eq_left (Nat.le_of_lt hl), Nat.max_eq_right (Nat.le_of_lt hl)]
    exact ⟨hl, h1 u h4, h1 v h5, hu, hv, hall⟩
  · rw [Nat.min_eq_right (Nat.le_of_lt hl), Nat.max_eq_left (Nat.le_of_lt hl)]
    exact ⟨hl, h1 v h5, h1 u h4, hv, hu, fun k hk ho => (hall k hk ho).symm⟩
theorem zloop_of {O : Nat → Int} (h : zr O) {a : Nat} {S : Nat → Prop} {u v : Nat} (hI : zI O a S u v) (huv : pn u = (v : Int)) : zloop O a := by
  have hS := zI_loop h hI huv
  obtain ⟨h1, h2, h3, h4, h5, h6, h7⟩ := hI
  intro k hk ho
  by_cases q1 : k = u
  · subst q1; exact ho v huv (h3 v h5).1
  · by_cases q2 : k = v
    · subst q2; exact ho u (pn_sym (h3 u h4).1.1 huv).2.2 (h3 u h4).1
    · obtain ⟨w, w1, w2, -⟩ := h7 k ((hS k).mpr hk) q1 q2
      exact ho w w1 (h3 w w2).1
theorem zends_un {O : Nat → Int} {a u v u' v' : Nat} (h : zends O a u v) (h' : zends O a u' v') : u = u' ∧ v = v' := by
  obtain ⟨h1, h2, h3, h4, h5, h6⟩ := h
  obtain ⟨g1, g2, g3, g4, g5, g6⟩ := h'
  have a1 := h6 u' g2 g4
  have a2 := h6 v' g3 g5
  have a3 := g6 u h2 h4
  have a4 := g6 v h3 h5
  omega
theorem zends_loop {O : Nat → Int} {a u v : Nat} (h : zends O a u v) : ¬ zloop O a := fun q => q u h.2.1 h.2.2.2.1
/-- the strokes, the panels, the hands of a part -/
noncomputable def zb (S : Nat → Prop) (k : Nat) : Bool := @decide (S k) (Classical.propDecidable _)
theorem zb_t {S : Nat → Prop} {k : Nat} : zb S k = true ↔ S k := by unfold zb; exact @decide_eq_true_iff _ (Classical.propDecidable _)
theorem pb_c_one {P : Nat → Bool} {j n : Nat} (hj : j < n) (hP : P j = false) : pb_c (fun k => P k || k == j) n = pb_c P n + 1 := by
  induction n with
  | zero => omega
  | succ n ih =>
    rw [pb_c, pb_c]
    by_cases h : j = n
    · subst h
      have e : pb_c (fun k => P k || k == j) j = pb_c P j := pb_c_ext fun i hi => by
        have : (i == j) = false := by simp; omega
        rw [this, Bool.or_false]
      rw [e, hP]
      simp
    · rw [ih (by omega)]
      have : (n == j) = false := by simp; omega
      rw [this, Bool.or_false]
      omega
theorem zb_ext {S T : Nat → Prop} (h : ∀ k, S k ↔ T k) : zb S = zb T := by
  funext k
  rw [Bool.eq_iff_iff, zb_t, zb_t]
  exact h k
theorem zb_two {S : Nat → Prop} {j o : Nat} (hj : j < 144) (ho : o < 144) (hjo : j ≠ o) (h1 : ¬ S j) (h2 : ¬ S o) : pb_c (zb (fun k => S k ∨ k = j ∨ k = o)) 144 = pb_c (zb S) 144 + 2 := by
  have e : zb (fun k => S k ∨ k = j ∨ k = o) = fun k => (zb S k || k == j) || k == o := by
    funext k
    rw [Bool.eq_iff_iff, zb_t, Bool.or_eq_true, Bool.or_eq_true, zb_t, beq_iff_eq, beq_iff_eq, or_assoc]
  have hf : ∀ {q : Nat}, ¬ S q → zb S q = false := fun {q} hq => by
    cases hz : zb S q with
    | false => rfl
    | true => exact absurd (zb_t.mp hz) hq
  rw [e, pb_c_one (P := fun k => zb S k || k == j) ho (by rw [hf h2, Bool.false_or]; simp; omega), pb_c_one hj (hf h1)]
def zps (S : Nat → Prop) (f : Nat → Nat) (n : Nat) : Prop := n < 64 ∧ ∀ p, n.testBit p = true ↔ ∃ k, S k ∧ f k = p
theorem zps_un {S : Nat → Prop} {f : Nat → Nat} {n m : Nat} (h : zps S f n) (h' : zps S f m) : n = m := by
  refine Nat.eq_of_testBit_eq fun i => ?_
  rw [Bool.eq_iff_iff, h.2, h'.2]
theorem zps_s {S : Nat → Prop} {f : Nat → Nat} {n j o : Nat} (h : zps S f n) (hf : f j < 6) (hfo : f o = f j) : zps (fun k => S k ∨ k = j ∨ k = o) f (n ||| 2 ^ f j) := by
  refine ⟨Nat.or_lt_two_pow (n := 6) h.1 (Nat.pow_lt_pow_right (by omega) hf), fun p => ?_⟩
  rw [Nat.testBit_or, Bool.or_eq_true, h.2, Nat.testBit_two_pow, decide_eq_true_eq]
  constructor
  · rintro (⟨k, hk, rfl⟩ | rfl)
    · exact ⟨k, Or.inl hk, rfl⟩
    · exact ⟨j, Or.inr (Or.inl rfl), rfl⟩
  · rintro ⟨k, hk | rfl | rfl, rfl⟩
    · exact Or.inl ⟨k, hk, rfl⟩
    · exact Or.inr rfl
    · exact Or.inr hfo.symm
theorem zps_ext {S T : Nat → Prop} {f : Nat → Nat} {n : Nat} (e : ∀ k, S k ↔ T k) (h : zps S f n) : zps T f n := ⟨h.1, fun p => (h.2 p).trans ⟨fun ⟨k, hk, hf⟩ => ⟨k, (e k).mp hk, hf⟩, fun ⟨k, hk, hf⟩ => ⟨k, (e k).mpr hk, hf⟩⟩⟩

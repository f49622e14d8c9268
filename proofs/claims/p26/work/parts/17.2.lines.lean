/-! what lines have: strokes, ends, hands -/
theorem pn_pan {k j : Nat} (hk : k < 144) (h : pn k = (j : Int)) : j / 24 ≠ k / 24 := by
  unfold pn at h
  split at h <;> split at h <;> omega
theorem zb_one {S : Nat → Prop} {j k n : Nat} (hj : j < n) (hS : S j) : 1 ≤ pb_c (zb S) n := pb_c_pos hj (zb_t.mpr hS)
theorem zb_no (n : Nat) : pb_c (zb (fun _ => False)) n = 0 := pb_c_none fun i _ => by
  cases hz : zb (fun _ => False) i with
  | false => rfl
  | true => exact absurd (zb_t.mp hz) id
/-- the line's row -/
theorem ln_row {O H : Nat → Int} {T : fx_M} (hL : cL O H T 144) {i : Nat} (hi : i < zn O) : ∃ s, (zN O 144)[i]? = some s ∧ zP O s ∧ cR O H s (T 11 i) (T 12 i) (T 13 i) (T 14 i) (T 15 i) (T 16 i) := by
  have hi' : i < (zN O 144).length := hi
  exact ⟨_, List.getElem?_eq_getElem hi', (zN_in (List.getElem_mem hi')).1, hL.2.2.1 i _ (List.getElem?_eq_getElem hi')⟩
theorem ln_many {O H : Nat → Int} {T : fx_M} (hz : zr O) (hL : cL O H T 144) {i : Nat} (hi : i < zn O) : 1 ≤ T 11 i ∧ T 11 i ≤ 72 := by
  obtain ⟨s, h1, h2, m, t, w, e1, e2, e3, e4, e5⟩ := ln_row hL hi
  have a := zb_one (k := 0) h2.1 (zc_self O s)
  have b := e4.1
  have c := (zT_b e4).1
  omega
theorem ln_loop {O H : Nat → Int} {T : fx_M} (hz : zr O) (hL : cL O H T 144) {i : Nat} (hi : i < zn O) (hl : T 16 i = 1) : T 14 i = -6 ∧ T 15 i = -6 ∧ 2 ≤ T 11 i := by
  obtain ⟨s, h1, h2, m, t, w, e1, e2, e3, e4, e5⟩ := ln_row hL hi
  rcases e5 with ⟨g1, g2, g3, g4⟩ | ⟨u, v, g1, g2, g3, g4⟩
  · refine ⟨g3, g4, ?_⟩
    have no := g1 s (zc_self O s)
    obtain ⟨j, hj, hP⟩ : ∃ j : Nat, pn s = (j : Int) ∧ zP O j := by
      apply Classical.byContradiction
      intro q
      exact no fun j hj hP => q ⟨j, hj, hP⟩
    have hpp := pn_pan h2.1 hj
    obtain ⟨o1, o2, o3, o4, -⟩ := zo_of hz h2
    obtain ⟨p1, p2, p3, p4, -⟩ := zo_of hz hP
    have c1 := zb_two (S := fun _ => False) h2.1 o1.1 (Ne.symm o2) id id
    have c2 := zb_two (S := fun k => False ∨ k = s ∨ k = zo O s) hP.1 p1.1 (Ne.symm p2) (by rintro (q | q | q); exact q; rw [q] at hpp; exact hpp rfl; rw [q] at hpp; omega) (by rintro (q | q | q); exact q; rw [q] at p4; omega; rw [q] at p4; omega)
    have c3 := zb_no 144
    have hsub : pb_c (zb (fun k => (False ∨ k = s ∨ k = zo O s) ∨ k = j ∨ k = zo O j)) 144 ≤ pb_c (zb (zc O s)) 144 := by
      have cs := zc_self O s
      have cj : zc O s j := (zc_cl O s s cs).2 j hj hP
      refine pb_c_mono fun k hk => zb_t.mpr ?_
      rcases zb_t.mp hk with (q | q | q) | q | q
      · exact absurd q id
      · rw [q]; exact cs
      · rw [q]; exact (zc_cl O s s cs).1
      · rw [q]; exact cj
      · rw [q]; exact (zc_cl O s j cj).1
    have b := e4.1
    omega
  · omega
theorem how_open {O : Nat → Int} {u : Nat} (hu : zP O u) (ho : zopen O u) : 2 ≤ z_how (zp O) u := by
  have rg := pn_rg hu.1
  unfold z_how
  rw [if_pos (zp_t.mpr hu.2)]
  by_cases q : pn u = -1
  · rw [if_pos q]; omega
  · rw [if_neg q]
    have hj : pn u = (((pn u).toNat : Nat) : Int) := by omega
    have := ho (pn u).toNat hj
    rw [if_neg]
    · omega
    · intro z
      exact this ⟨by omega, zp_t.mp z⟩
theorem ln_ends {O H : Nat → Int} {T : fx_M} (hz : zr O) (hL : cL O H T 144) {i : Nat} (hi : i < zn O) (hl : ¬ T 16 i = 1) : ∃ u v : Nat, T 14 i = (u : Int) ∧ T 15 i = (v : Int) ∧ T 16 i = 0 ∧ u < v ∧ u < 144 ∧ v < 144 ∧ zp O u = true ∧ zp O v = true ∧ T 10 u = (i : Int) ∧ T 10 v = (i : Int) ∧ 2 ≤ z_how (zp O) u ∧ 2 ≤ z_how (zp O) v := by
  obtain ⟨s, h1, h2, m, t, w, e1, e2, e3, e4, e5⟩ := ln_row hL hi
  rcases e5 with ⟨g1, g2, g3, g4⟩ | ⟨u, v, g1, g2, g3, g4⟩
  · omega
  · obtain ⟨q1, q2, q3, q4, q5, -⟩ := g1
    have pu := zc_P hz h2 q2
    have pv := zc_P hz h2 q3
    exact ⟨u, v, g3, g4, g2, q1, pu.1, pv.1, zp_t.mpr pu.2, zp_t.mpr pv.2, (hL.2.1 u pu.1).1 i s h1 q2, (hL.2.1 v pv.1).1 i s h1 q3, how_open pu q4, how_open pv q5⟩
theorem ln_hands {O H : Nat → Int} {T : fx_M} (hz : zr O) (hH : ∀ p, p < 6 → 0 ≤ H p ∧ H p < 6) (hL : cL O H T 144) {i : Nat} (hi : i < zn O) : ∃ t : Nat, t < 64 ∧ T 12 i = (t : Int) ∧ T 13 i = (y_ho H t : Int) := by
  obtain ⟨s, h1, h2, m, t, w, e1, e2, e3, e4, e5⟩ := ln_row hL hi
  refine ⟨t, (zT_b e4).2.1, e2, ?_⟩
  rw [e3, zps_ho (fun k hk => (zc_P hz h2 hk).1) hH e4.2.1 e4.2.2]
/-- a stroke's both ends are in one line; so are strokes that meet -/
theorem ln_at {O H : Nat → Int} {T : fx_M} (hL : cL O H T 144) {k : Nat} (hP : zP O k) : ∃ s i : Nat, (zN O 144)[i]? = some s ∧ i < zn O ∧ zc O s k ∧ T 10 k = (i : Int) := by
  obtain ⟨s, h1, h2⟩ := zN_all (c := 144) hP.1 hP
  obtain ⟨i, h3, h4⟩ := li_mem h1
  exact ⟨s, i, h3, h4, h2, (hL.2.1 k hP.1).1 i s h3 h2⟩
theorem ln_other {O H : Nat → Int} {T : fx_M} (hz : zr O) (hL : cL O H T 144) {k : Nat} (hP : zP O k) : T 10 (zo O k) = T 10 k := by
  obtain ⟨s, i, h1, h2, h3, h4⟩ := ln_at hL hP
  rw [h4]
  exact (hL.2.1 _ (zo_of hz hP).1.1).1 i s h1 (zc_cl O s k h3).1
theorem ln_meet {O H : Nat → Int} {T : fx_M} (hL : cL O H T 144) {k j : Nat} (hP : zP O k) (hj : pn k = (j : Int)) (hJ : zP O j) : T 10 j = T 10 k := by
  obtain ⟨s, i, h1, h2, h3, h4⟩ := ln_at hL hP
  rw [h4]
  exact (hL.2.1 _ hJ.1).1 i s h1 ((zc_cl O s k h3).2 j hj hJ)
theorem ln_is {O H : Nat → Int} {T : fx_M} (hz : zr O) (hL : cL O H T 144) {k : Nat} (hk : k < 144) : (zP O k ∧ ∃ i : Nat, i < zn O ∧ T 10 k = (i : Int)) ∨ (¬ zP O k ∧ T 10 k = -1) := by
  by_cases hP : zP O k
  · obtain ⟨s, i, h1, h2, h3, h4⟩ := ln_at hL hP
    exact Or.inl ⟨hP, i, h2, h4⟩
  · refine Or.inr ⟨hP, (hL.2.1 k hk).2 fun s hs hc => hP (zc_P hz (zN_in hs).1 hc)⟩
theorem ln_two {O H : Nat → Int} {T : fx_M} (hz : zr O) (hL : cL O H T 144) {i : Nat} (hi : i < zn O) : 2 * T 11 i = ((pb_c (fun k => decide (T 10 k = (i : Int))) 144 : Nat) : Int) := by
  obtain ⟨s, h1, h2, m, t, w, e1, e2, e3, e4, e5⟩ := ln_row hL hi
  have e : pb_c (zb (zc O s)) 144 = pb_c (fun k => decide (T 10 k = (i : Int))) 144 := pb_c_ext fun k hk => by
    rw [Bool.eq_iff_iff, zb_t, decide_eq_true_iff]
    refine ⟨fun hc => (hL.2.1 k hk).1 i s h1 hc, fun ht => ?_⟩
    rcases ln_is hz hL hk with ⟨hP, -⟩ | ⟨-, q⟩
    · obtain ⟨s', i', g1, g2, g3, g4⟩ := ln_at hL hP
      have : i' = i := by omega
      subst this
      rw [h1] at g1
      cases g1
      exact g3
    · omega
  have b := e4.1
  omega
theorem ln_sum {O H : Nat → Int} {T : fx_M} (hz : zr O) (hL : cL O H T 144) : pb_m (T 11) (zn O) = ((pb_n (z_str (zp O)) 6 : Nat) : Int) := by
  have key : ∀ n, n ≤ zn O → 2 * pb_m (T 11) n = ((pb_c (fun k => decide (0 ≤ T 10 k ∧ T 10 k < (n : Int))) 144 : Nat) : Int) := by
    intro n
    induction n with
    | zero =>
      intro _
      rw [pb_c_none fun k _ => decide_eq_false (by omega)]
      rfl
    | succ n ih =>
      intro hn
      have h1 := ih (by omega)
      have h2 := ln_two hz hL (show n < zn O by omega)
      have h3 := pb_c_or (fun k => decide (0 ≤ T 10 k ∧ T 10 k < (n : Int))) (fun k => decide (T 10 k = (n : Int))) 144
      have h4 : pb_c (fun k => decide (0 ≤ T 10 k ∧ T 10 k < (n : Int)) && decide (T 10 k = (n : Int))) 144 = 0 := pb_c_none fun k _ => by
        rw [Bool.eq_false_iff]
        intro q
        rw [Bool.and_eq_true, decide_eq_true_iff, decide_eq_true_iff] at q
        omega
      have h5 : pb_c (fun k => decide (0 ≤ T 10 k ∧ T 10 k < (n : Int)) || decide (T 10 k = (n : Int))) 144 = pb_c (fun k => decide (0 ≤ T 10 k ∧ T 10 k < ((n + 1 : Nat) : Int))) 144 := pb_c_ext fun k _ => by
        rw [Bool.eq_iff_iff, Bool.or_eq_true, decide_eq_true_iff, decide_eq_true_iff, decide_eq_true_iff]
        omega
      rw [pb_m]
      omega
  have h1 := key (zn O) (Nat.le_refl _)
  have h2 : pb_c (fun k => decide (0 ≤ T 10 k ∧ T 10 k < (zn O : Int))) 144 = pb_c (zp O) 144 := pb_c_ext fun k hk => by
    rw [Bool.eq_iff_iff, decide_eq_true_iff, zp_t]
    rcases ln_is hz hL hk with ⟨hP, i, i1, i2⟩ | ⟨hP, q⟩
    · exact ⟨fun _ => hP.2, fun _ => by omega⟩
    · exact ⟨fun _ => by omega, fun a => absurd ⟨hk, a⟩ hP⟩
  have h3 := strs_two hz.2
  omega
/-! hands: each panel, each fault has one -/
theorem hd_step (G : Nat → Nat) (H : Nat → Int) (c n : Nat) : pb_n (fun q => if H q < (c : Int) then G q else 0) n + pb_n (fun q => if H q = (c : Int) then G q else 0) n = pb_n (fun q => if H q < ((c + 1 : Nat) : Int) then G q else 0) n := by
  rw [← pb_n_a]
  refine pb_n_ext fun q _ => ?_
  by_cases h1 : H q < (c : Int)
  · rw [if_pos h1, if_neg (by omega), if_pos (by omega)]
    rfl
  · rw [if_neg h1]
    by_cases h2 : H q = (c : Int)
    · rw [if_pos h2, if_pos (by omega)]
      omega
    · rw [if_neg h2, if_neg (by omega)]
theorem hd_all {G : Nat → Nat} {H : Nat → Int} {n : Nat} (h : ∀ q, q < n → H q < 6) : pb_n (fun q => if H q < ((6 : Nat) : Int) then G q else 0) n = pb_n G n := pb_n_ext fun q hq => by
  have := h q hq
  rw [if_pos (by omega)]
theorem hd_none {G : Nat → Nat} {H : Nat → Int} {n : Nat} (h : ∀ q, q < n → 0 ≤ H q) : pb_n (fun q => if H q < ((0 : Nat) : Int) then G q else 0) n = 0 := pb_n_zero fun q hq => by
  have := h q hq
  rw [if_neg (by omega)]
theorem hd_or (H : Nat → Int) (c : Nat) : pb_s (fun q => decide (H q < (c : Int))) 6 ||| pb_s (fun q => decide (H q = (c : Int))) 6 = pb_s (fun q => decide (H q < ((c + 1 : Nat) : Int))) 6 := by
  rw [pb_s_or]
  refine pb_s_ext fun q _ => ?_
  rw [Bool.eq_iff_iff, Bool.or_eq_true, decide_eq_true_iff, decide_eq_true_iff, decide_eq_true_iff]
  omega
theorem hd_and (H : Nat → Int) (c : Nat) : pb_s (fun q => decide (H q < (c : Int))) 6 &&& pb_s (fun q => decide (H q = (c : Int))) 6 = 0 := by
  rw [pb_s_and]
  refine pb_s_none fun q _ => ?_
  rw [Bool.eq_false_iff]
  intro z
  rw [Bool.and_eq_true, decide_eq_true_iff, decide_eq_true_iff] at z
  omega
theorem hd_full {H : Nat → Int} (h : ∀ q, q < 6 → H q < 6) : pb_s (fun q => decide (H q < ((6 : Nat) : Int))) 6 = 63 := by
  have e : pb_s (fun q => decide (H q < ((6 : Nat) : Int))) 6 = pb_s (fun _ => true) 6 := pb_s_ext fun q hq => decide_eq_true (h q hq)
  rw [e]
  decide
theorem hd_0 {H : Nat → Int} (h : ∀ q, q < 6 → 0 ≤ H q) : pb_s (fun q => decide (H q < ((0 : Nat) : Int))) 6 = 0 := pb_s_none fun q hq => decide_eq_false (by have := h q hq; omega)

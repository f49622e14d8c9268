/-! both ways of counting -/
def zA (P Q : Nat → Bool) : Prop := ∀ k, k < 144 → P k = Q k
theorem z_str_x {P Q : Nat → Bool} (h : zA P Q) {p : Nat} (hp : p < 6) : z_str P p = z_str Q p := by
  unfold z_str
  rw [pb_c_ext fun i hi => h _ (by omega)]
theorem z_how_x {P Q : Nat → Bool} (h : zA P Q) {k : Nat} (hk : k < 144) : z_how P k = z_how Q k := by
  have := pn_rg hk
  unfold z_how
  rw [h k hk]
  by_cases hq : Q k = true
  · rw [if_pos hq, if_pos hq]
    by_cases hm : pn k = -1
    · rw [if_pos hm, if_pos hm]
    · rw [if_neg hm, if_neg hm, h (pn k).toNat (by omega)]
  · rw [if_neg hq, if_neg hq]
theorem z_c0_x {P Q : Nat → Bool} (h : zA P Q) {f : Nat} (hf : f < 5) : z_c0 P f = z_c0 Q f := by
  unfold z_c0
  exact pb_c_ext fun i hi => by rw [h _ (by omega), h (24 * f + 24 + i) (by omega)]
theorem z_c1_x {P Q : Nat → Bool} (h : zA P Q) {f : Nat} (hf : f < 5) : z_c1 P f = z_c1 Q f := by
  unfold z_c1
  exact pb_c_ext fun i hi => by rw [h _ (by omega), h (24 * f + 12 + i) (by omega)]
theorem z_f0_x {P Q : Nat → Bool} (h : zA P Q) {f : Nat} (hf : f < 5) : z_f0 P f = z_f0 Q f := by
  unfold z_f0
  exact pb_s_ext fun i hi => by rw [h _ (by omega), h (24 * f + 24 + i) (by omega)]
theorem z_f1_x {P Q : Nat → Bool} (h : zA P Q) {f : Nat} (hf : f < 5) : z_f1 P f = z_f1 Q f := by
  unfold z_f1
  exact pb_s_ext fun i hi => by rw [h _ (by omega), h (24 * f + 12 + i) (by omega)]
theorem z_edge_x {P Q : Nat → Bool} (h : zA P Q) {e : Nat} (he : e < 12) : z_edge P e = z_edge Q e := by
  unfold z_edge
  exact pb_s_ext fun i hi => h _ (by omega)
theorem pb_all_ext {P Q : Nat → Bool} {n : Nat} (h : ∀ i, i < n → P i = Q i) : pb_all P n = pb_all Q n := by
  rw [Bool.eq_iff_iff, pb_all_iff, pb_all_iff]
  exact ⟨fun q i hi => by rw [← h i hi]; exact q i hi, fun q i hi => by rw [h i hi]; exact q i hi⟩
theorem z_can_x {P Q : Nat → Bool} (h : zA P Q) {p : Nat} {x : Int} (hp : p < 6) : z_can P p x = z_can Q p x := by
  unfold z_can
  exact pb_all_ext fun i hi => by rw [h _ (by omega), h (24 * p + 12 + i) (by omega)]
theorem z_cr_x {O O' : Nat → Int} (h : ∀ k, k < 144 → O k = O' k) {k : Nat} (hk : k < 144) : z_cr O k = z_cr O' k := by
  unfold z_cr
  exact pb_c_ext fun i hi => by rw [h (24 * (k / 24) + i) (by omega), h k hk]
theorem z_prs_x {O O' : Nat → Int} (h : ∀ k, k < 144 → O k = O' k) {p : Nat} (hp : p < 6) : z_prs O p = z_prs O' p := by
  unfold z_prs
  rw [pb_n_ext fun i hi => by rw [h (24 * p + i) (by omega), z_cr_x h (k := 24 * p + i) (by omega)]]
theorem z_lf_c (P : Nat → Bool) (f : Nat) : z_lf P f = z_c0 P f + z_c1 P f := by
  unfold z_lf z_c0 z_c1
  exact pb_c_xor _ _ 12
theorem pn_lo {f c : Nat} (hc : c < 12) (hf : f < 5) : pn (24 * f + 12 + c) = ((24 * f + 24 + c : Nat) : Int) := by
  unfold pn
  rw [if_neg (by omega), if_pos (by omega)]
  push_cast
  omega
theorem pn_up {f c : Nat} (hc : c < 12) : pn (24 * f + 24 + c) = ((24 * f + 12 + c : Nat) : Int) := by
  unfold pn
  rw [if_pos (by omega), if_pos (by omega)]
  push_cast
  omega
theorem pn_to {c : Nat} (hc : c < 12) : pn c = -1 := by
  unfold pn
  rw [if_pos (by omega), if_neg (by omega)]
theorem pn_bo {c : Nat} (hc : c < 12) : pn (132 + c) = -1 := by
  unfold pn
  rw [if_neg (by omega), if_neg (by omega)]
theorem h2_lo {P : Nat → Bool} {f c : Nat} (hc : c < 12) (hf : f < 5) : decide (z_how P (24 * f + 12 + c) = 2) = (P (24 * f + 12 + c) && !P (24 * f + 24 + c)) := by
  unfold z_how
  rw [pn_lo hc hf, show ((24 * f + 24 + c : Nat) : Int).toNat = 24 * f + 24 + c by omega]
  cases P (24 * f + 12 + c) <;> cases P (24 * f + 24 + c) <;> simp <;> omega
theorem h2_up {P : Nat → Bool} {f c : Nat} (hc : c < 12) : decide (z_how P (24 * f + 24 + c) = 2) = (P (24 * f + 24 + c) && !P (24 * f + 12 + c)) := by
  unfold z_how
  rw [pn_up hc, show ((24 * f + 12 + c : Nat) : Int).toNat = 24 * f + 12 + c by omega]
  cases P (24 * f + 12 + c) <;> cases P (24 * f + 24 + c) <;> simp <;> omega
theorem pb_c_none {P : Nat → Bool} {n : Nat} (h : ∀ i, i < n → P i = false) : pb_c P n = 0 := by
  induction n with
  | zero => rfl
  | succ n ih => rw [pb_c, ih (fun i hi => h i (by omega)), h n (by omega)]; rfl
theorem z_loose_c (P : Nat → Bool) : pb_c (fun i => decide (z_how P i = 2)) 144 = z_loose P := by
  have key : ∀ n, n ≤ 5 → pb_c (fun i => decide (z_how P i = 2)) (12 + 24 * n) = pb_n (z_lf P) n := by
    intro n
    induction n with
    | zero =>
      intro _
      refine pb_c_none fun i hi => ?_
      unfold z_how
      rw [pn_to hi]
      split <;> simp
    | succ n ih =>
      intro hn
      rw [show 12 + 24 * (n + 1) = (12 + 24 * n) + (12 + 12) by omega, pb_c_add, ih (by omega), pb_c_add, pb_n, z_lf_c]
      have e1 : pb_c (fun i => decide (z_how P (12 + 24 * n + i) = 2)) 12 = z_c0 P n := by
        unfold z_c0
        exact pb_c_ext fun i hi => by rw [show 12 + 24 * n + i = 24 * n + 12 + i by omega, h2_lo hi (by omega)]
      have e2 : pb_c (fun i => decide (z_how P (12 + 24 * n + (12 + i)) = 2)) 12 = z_c1 P n := by
        unfold z_c1
        exact pb_c_ext fun i hi => by rw [show 12 + 24 * n + (12 + i) = 24 * n + 24 + i by omega, h2_up hi]
      omega
  have h5 := key 5 (by omega)
  rw [show 144 = (12 + 24 * 5) + 12 by omega, pb_c_add, h5]
  have : pb_c (fun i => decide (z_how P (12 + 24 * 5 + i) = 2)) 12 = 0 := by
    refine pb_c_none fun i hi => ?_
    rw [show 12 + 24 * 5 + i = 132 + i by omega]
    unfold z_how
    rw [pn_bo hi]
    split <;> simp
  unfold z_loose
  omega
theorem z_free_c (P : Nat → Bool) : pb_c (fun i => decide (z_how P i = 3)) 144 = z_free P := by
  have e : 144 = 12 + (120 + 12) := rfl
  rw [e, pb_c_add, pb_c_add]
  have h1 : pb_c (fun i => decide (z_how P i = 3)) 12 = pb_c (fun c => P c) 12 := by
    refine pb_c_ext fun i hi => ?_
    unfold z_how
    rw [pn_to hi]
    cases P i <;> simp
  have h2 : pb_c (fun i => decide (z_how P (12 + i) = 3)) 120 = 0 := by
    refine pb_c_none fun i hi => ?_
    unfold z_how
    have : pn (12 + i) ≠ -1 := by
      unfold pn
      split <;> split <;> omega
    rw [if_neg this]
    split
    next => split <;> simp
    next => simp
  have h3 : pb_c (fun i => decide (z_how P (12 + (120 + i)) = 3)) 12 = pb_c (fun c => P (132 + c)) 12 := by
    refine pb_c_ext fun i hi => ?_
    rw [show 12 + (120 + i) = 132 + i by omega]
    unfold z_how
    rw [pn_bo hi]
    cases P (132 + i) <;> simp
  unfold z_free
  omega
theorem pb_n_0 (g : Nat → Nat) (n : Nat) : pb_n g (n + 1) = g 0 + pb_n (fun i => g (i + 1)) n := by
  induction n with
  | zero => simp [pb_n]
  | succ n ih => rw [pb_n, ih, pb_n]; omega
theorem pb_n_a (g h : Nat → Nat) (n : Nat) : pb_n (fun i => g i + h i) n = pb_n g n + pb_n h n := by
  induction n with
  | zero => rfl
  | succ n ih => rw [pb_n, pb_n, pb_n, ih]; omega
/-! the same lines, whatever lies beyond the places -/
theorem zP_x {O O' : Nat → Int} (h : ∀ k, k < 144 → O k = O' k) (k : Nat) : zP O k ↔ zP O' k := by
  unfold zP
  constructor
  · rintro ⟨h1, h2⟩; exact ⟨h1, by rw [← h k h1]; exact h2⟩
  · rintro ⟨h1, h2⟩; exact ⟨h1, by rw [h k h1]; exact h2⟩
theorem zo_x {O O' : Nat → Int} (h : ∀ k, k < 144 → O k = O' k) {k : Nat} (hk : k < 144) : zo O k = zo O' k := by
  unfold zo
  rw [h k hk]
theorem zc_x1 {O O' : Nat → Int} (h : ∀ k, k < 144 → O k = O' k) (hz' : zr O') {s k : Nat} (hs : zP O' s) (hk : zc O s k) : zc O' s k := by
  have : zc O' s k ∧ zP O' k := by
    refine zc_sub (S := fun q => zc O' s q ∧ zP O' q) ?_ ⟨zc_self O' s, hs⟩ hk
    rintro q ⟨q1, q2⟩
    refine ⟨?_, fun j hj hP => ?_⟩
    · rw [zo_x h q2.1]
      exact ⟨(zc_cl O' s q q1).1, (zo_of hz' q2).1⟩
    · have := (zP_x h j).mp hP
      exact ⟨(zc_cl O' s q q1).2 j hj this, this⟩
  exact this.1
theorem zc_x {O O' : Nat → Int} (h : ∀ k, k < 144 → O k = O' k) (hz : zr O) (hz' : zr O') {s : Nat} (hs : zP O s) : zc O s = zc O' s := by
  funext k
  exact propext ⟨zc_x1 h hz' ((zP_x h s).mp hs), zc_x1 (fun k hk => (h k hk).symm) hz hs⟩
theorem zN_x {O O' : Nat → Int} (h : ∀ k, k < 144 → O k = O' k) (hz : zr O) (hz' : zr O') (c : Nat) : zN O c = zN O' c := by
  induction c with
  | zero => rfl
  | succ c ih =>
    by_cases h1 : zP O c ∧ ∀ s, s ∈ zN O c → ¬ zc O s c
    · rw [zN_y h1.1 h1.2, zN_y ((zP_x h c).mp h1.1), ih]
      intro s hs
      rw [← ih] at hs
      rw [← zc_x h hz hz' (zN_in hs).1]
      exact h1.2 s hs
    · rw [zN_n, zN_n, ih]
      · intro hP
        apply Classical.byContradiction
        intro hno
        refine h1 ⟨(zP_x h c).mpr hP, fun s hs hz1 => hno ⟨s, by rw [← ih]; exact hs, ?_⟩⟩
        rw [← zc_x h hz hz' (zN_in hs).1]
        exact hz1
      · intro hP
        apply Classical.byContradiction
        intro hno
        exact h1 ⟨hP, fun s hs hz1 => hno ⟨s, hs, hz1⟩⟩
theorem zopen_x {O O' : Nat → Int} (h : ∀ k, k < 144 → O k = O' k) (u : Nat) : zopen O u ↔ zopen O' u := by
  unfold zopen
  exact ⟨fun q j hj hP => q j hj ((zP_x h j).mpr hP), fun q j hj hP => q j hj ((zP_x h j).mp hP)⟩
theorem zRes_x {O O' : Nat → Int} (h : ∀ k, k < 144 → O k = O' k) (hz : zr O) (hz' : zr O') {s : Nat} (hs : zP O s) {l g p : Int} (hr : zRes O s l g p) : zRes O' s l g p := by
  have e := zc_x h hz hz' hs
  unfold zRes zloop zends at hr ⊢
  rw [← e]
  rcases hr with ⟨h1, h2⟩ | ⟨u, v, ⟨g1, g2, g3, g4, g5, g6⟩, g7⟩
  · exact Or.inl ⟨fun k hk ho => h1 k hk ((zopen_x h k).mpr ho), h2⟩
  · exact Or.inr ⟨u, v, ⟨g1, g2, g3, (zopen_x h u).mp g4, (zopen_x h v).mp g5, fun k hk ho => g6 k hk ((zopen_x h k).mpr ho)⟩, g7⟩
theorem z_how_rg (P : Nat → Bool) (k : Nat) : 0 ≤ z_how P k ∧ z_how P k ≤ 3 := by unfold z_how; split <;> (try split) <;> (try split) <;> omega
theorem z_loose_b (P : Nat → Bool) : z_loose P ≤ 60 := by
  have h : pb_n (z_lf P) 5 ≤ 5 * 12 := pb_n_le fun i _ => pb_c_le _ 12
  exact h
theorem z_str_b (P : Nat → Bool) (p : Nat) : z_str P p ≤ 12 := by
  have := pb_c_le (fun e => P (24 * p + e)) 24
  unfold z_str
  omega
theorem str_b (P : Nat → Bool) : pb_n (z_str P) 6 ≤ 72 := by
  have h : pb_n (z_str P) 6 ≤ 6 * 12 := pb_n_le fun i _ => z_str_b P i
  exact h
theorem z_cr_b (O : Nat → Int) (k : Nat) : z_cr O k ≤ 24 := pb_c_le _ 24
theorem in_b (t : Nat → Int) (p n : Nat) : l_in t p n ≤ n := pb_c_le _ n
theorem z_prs_b (O : Nat → Int) (p : Nat) : z_prs O p ≤ 288 := by
  have h : pb_n (fun e => if (e : Int) < O (24 * p + e) then z_cr O (24 * p + e) else 0) 24 ≤ 24 * 24 := pb_n_le fun i _ => by
    have : z_cr O (24 * p + i) ≤ 24 := pb_c_le _ 24
    split <;> omega
  unfold z_prs
  omega
theorem nat_of {x : Int} (h : 0 ≤ x) : ∃ n : Nat, x = (n : Int) := ⟨x.toNat, by omega⟩
theorem z_swp_hi {O : Nat → Int} {p q k : Nat} (hp : p < 6) (hq : q < 6) (hk : 144 ≤ k) : z_swp O p q 24 k = O k := by
  unfold z_swp
  rw [if_neg (by omega), if_neg (by omega)]
theorem in24 (p k : Nat) : (∃ j, j < 12 ∧ k = 24 * p + j) ∨ (∃ j, j < 12 ∧ k = 24 * p + 12 + j) ∨ ¬ (24 * p ≤ k ∧ k < 24 * p + 24) := by
  by_cases h : 24 * p ≤ k ∧ k < 24 * p + 24
  · by_cases h2 : k < 24 * p + 12
    · exact Or.inl ⟨k - 24 * p, by omega, by omega⟩
    · exact Or.inr (Or.inl ⟨k - 24 * p - 12, by omega, by omega⟩)
  · exact Or.inr (Or.inr h)

/-! a panel that is turned: as many pairs cross -/
theorem bt_x {x c d : Int} (h1 : z_ar x ≠ z_ar c) (h2 : z_ar x ≠ z_ar d) : z_bt x c d = (decide (z_ar x < z_ar c) != decide (z_ar x < z_ar d)) := by
  unfold z_bt
  by_cases a : z_ar x < z_ar c
  · rw [decide_eq_true a]
    by_cases b : z_ar x < z_ar d
    · rw [decide_eq_true b]
      refine decide_eq_false ?_
      intro q
      have := q.1
      split at this <;> omega
    · rw [decide_eq_false b]
      refine decide_eq_true ⟨?_, ?_⟩ <;> split <;> omega
  · rw [decide_eq_false a]
    by_cases b : z_ar x < z_ar d
    · rw [decide_eq_true b]
      refine decide_eq_true ⟨?_, ?_⟩ <;> split <;> omega
    · rw [decide_eq_false b]
      refine decide_eq_false ?_
      intro q
      have := q.2
      split at this <;> omega
theorem bt_self {c d : Int} : z_bt c c d = false ∧ z_bt d c d = false := by
  unfold z_bt
  constructor
  · refine decide_eq_false ?_
    intro q
    have h1 := q.1
    have h2 := q.2
    split at h1 <;> split at h2 <;> omega
  · refine decide_eq_false ?_
    intro q
    have h1 := q.1
    have h2 := q.2
    split at h1 <;> split at h2 <;> omega
theorem bt_sym (x c d : Int) : z_bt x c d = z_bt x d c := by
  unfold z_bt
  rw [decide_eq_decide]
  constructor
  · rintro ⟨h1, h2⟩
    split at h1 <;> split at h2 <;> constructor <;> split <;> omega
  · rintro ⟨h1, h2⟩
    split at h1 <;> split at h2 <;> constructor <;> split <;> omega
theorem z_ar_in {x y : Int} (hx : 0 ≤ x ∧ x < 24) (hy : 0 ≤ y ∧ y < 24) (h : x ≠ y) : z_ar x ≠ z_ar y := by
  unfold z_ar
  split <;> split <;> omega
def kk (h : Int) : Bool := decide (h ≠ 2)
def hh (h x : Int) : Bool := decide (h ≠ 1 ∧ z_ar x < 12)
theorem z_ar_tn {h x : Int} (hh0 : 0 ≤ h ∧ h < 3) (hx : 0 ≤ x ∧ x < 24) : z_ar (z_tn h x) = if h = 1 then 23 - z_ar x else if h = 0 then (if z_ar x < 12 then 11 - z_ar x else 35 - z_ar x) else (if z_ar x < 12 then z_ar x + 12 else z_ar x - 12) := by
  unfold z_tn
  by_cases h1 : h = 1
  · rw [if_pos h1, if_pos h1]
    unfold z_ar
    by_cases a : x < 12
    · rw [if_pos a, if_pos a, if_neg (by omega)]; omega
    · rw [if_neg a, if_neg a, if_pos (by omega)]; omega
  · rw [if_neg h1, if_neg h1]
    by_cases h0 : h = 0
    · rw [if_pos h0, if_pos h0]
      unfold z_ar
      by_cases a : x < 12
      · rw [if_pos a, if_pos a, if_pos (by omega), if_pos (by omega)]
      · rw [if_neg a, if_neg a, if_neg (by omega), if_neg (by omega)]
    · rw [if_neg h0, if_neg h0]
      unfold z_ar
      by_cases a : x < 12
      · rw [if_pos a, if_neg (by omega), if_pos (by omega)]; omega
      · rw [if_neg a, if_pos (by omega), if_neg (by omega)]; omega
theorem z_ar_b {x : Int} (hx : 0 ≤ x ∧ x < 24) : 0 ≤ z_ar x ∧ z_ar x < 24 := by
  unfold z_ar
  split <;> omega
theorem s_tn {h x y : Int} (hh0 : 0 ≤ h ∧ h < 3) (hx : 0 ≤ x ∧ x < 24) (hy : 0 ≤ y ∧ y < 24) (hne : x ≠ y) : decide (z_ar (z_tn h x) < z_ar (z_tn h y)) = ((decide (z_ar x < z_ar y) != kk h) != (hh h x != hh h y)) := by
  have hn := z_ar_in hx hy hne
  have bx := z_ar_b hx
  have b_y := z_ar_b hy
  rw [z_ar_tn hh0 hx, z_ar_tn hh0 hy]
  unfold kk hh
  generalize z_ar x = a at *
  generalize z_ar y = b at *
  by_cases h1 : h = 1
  · subst h1
    rw [if_pos rfl, if_pos rfl]
    by_cases q : a < b
    · rw [decide_eq_false (show ¬ (23 - a < 23 - b) by omega), decide_eq_true q]
      simp
    · rw [decide_eq_true (show 23 - a < 23 - b by omega), decide_eq_false q]
      simp
  · rw [if_neg h1, if_neg h1]
    by_cases h0 : h = 0
    · subst h0
      rw [if_pos rfl, if_pos rfl]
      by_cases qa : a < 12 <;> by_cases qb : b < 12 <;> by_cases q : a < b <;> simp [qa, qb, q] <;> omega
    · have h2 : h = 2 := by omega
      subst h2
      rw [if_neg h0, if_neg h0]
      by_cases qa : a < 12 <;> by_cases qb : b < 12 <;> by_cases q : a < b <;> simp [qa, qb, q] <;> omega
theorem bool9 : ∀ k ha hb hc hd s1 s2 s3 s4 : Bool, (((((s1 != k) != (ha != hc)) != ((s2 != k) != (ha != hd)))) != ((((s3 != k) != (hb != hc)) != ((s4 != k) != (hb != hd))))) = ((s1 != s2) != (s3 != s4)) := by decide
/-- whether two strokes cross, by their ends -/
def zX (O : Nat → Int) (p e f : Nat) : Bool := z_bt (f : Int) (e : Int) (O (24 * p + e)) != z_bt (O (24 * p + f)) (e : Int) (O (24 * p + e))
theorem tn_cross {h a b c d : Int} (hh0 : 0 ≤ h ∧ h < 3) (ha : 0 ≤ a ∧ a < 24) (hb : 0 ≤ b ∧ b < 24) (hc : 0 ≤ c ∧ c < 24) (hd : 0 ≤ d ∧ d < 24) (hac : a ≠ c) (had : a ≠ d) (hbc : b ≠ c) (hbd : b ≠ d) :
    (z_bt (z_tn h a) (z_tn h c) (z_tn h d) != z_bt (z_tn h b) (z_tn h c) (z_tn h d)) = (z_bt a c d != z_bt b c d) := by
  have t : ∀ {x y : Int}, 0 ≤ x ∧ x < 24 → 0 ≤ y ∧ y < 24 → x ≠ y → z_ar (z_tn h x) ≠ z_ar (z_tn h y) := by
    intro x y hx hy hne
    refine z_ar_in (z_tn_rg hx) (z_tn_rg hy) fun q => hne ?_
    rw [← z_tn_inv (h := h) hx, q, z_tn_inv hy]
  rw [bt_x (t ha hc hac) (t ha hd had), bt_x (t hb hc hbc) (t hb hd hbd), s_tn hh0 ha hc hac, s_tn hh0 ha hd had, s_tn hh0 hb hc hbc, s_tn hh0 hb hd hbd, bool9, bt_x (z_ar_in ha hc hac) (z_ar_in ha hd had), bt_x (z_ar_in hb hc hbc) (z_ar_in hb hd hbd)]
/-- four times the pairs -/
def zS (O : Nat → Int) (p : Nat) : Nat := pb_n (fun e => if zp O (24 * p + e) = true then pb_c (fun f => zp O (24 * p + f) && zX O p e f) 24 else 0) 24
theorem prs_four {O : Nat → Int} {p : Nat} (hi : z_inv O) (hp : p < 6) : zS O p = 4 * pb_n (fun e => if (e : Int) < O (24 * p + e) then z_cr O (24 * p + e) else 0) 24 := by
  have inner : ∀ e, e < 24 → pb_c (fun f => zp O (24 * p + f) && zX O p e f) 24 = 2 * z_cr O (24 * p + e) := by
    intro e he
    have h := half_n (F := fun f => if zX O p e f = true then 1 else 0) hi hp (fun f hf o ho o1 o2 => by
      have : zX O p e o = zX O p e f := by
        unfold zX
        rw [o2, o1]
        cases z_bt (f : Int) (e : Int) (O (24 * p + e)) <;> cases z_bt (o : Int) (e : Int) (O (24 * p + e)) <;> rfl
      rw [this])
    have e1 : pb_c (fun f => zp O (24 * p + f) && zX O p e f) 24 = pb_n (fun f => if zp O (24 * p + f) = true then (if zX O p e f = true then 1 else 0) else 0) 24 := by
      rw [pb_c_n]
      refine pb_n_ext fun f _ => ?_
      cases zp O (24 * p + f) <;> cases zX O p e f <;> rfl
    have e2 : z_cr O (24 * p + e) = pb_n (fun f => if decide ((f : Int) < O (24 * p + f)) = true then (if zX O p e f = true then 1 else 0) else 0) 24 := by
      unfold z_cr
      rw [show (24 * p + e) / 24 = p by omega, show (24 * p + e) % 24 = e by omega, pb_c_n]
      refine pb_n_ext fun f _ => ?_
      show (if (decide ((f : Int) < O (24 * p + f)) && zX O p e f) = true then 1 else 0) = _
      cases decide ((f : Int) < O (24 * p + f)) <;> cases zX O p e f <;> rfl
    rw [e1, e2]
    exact h
  have h := half_n (F := fun e => pb_c (fun f => zp O (24 * p + f) && zX O p e f) 24) hi hp (fun e he o ho o1 o2 => pb_c_ext fun f _ => by
    have : zX O p o f = zX O p e f := by
      unfold zX
      rw [o2, o1, bt_sym (f : Int) (o : Int) (e : Int), bt_sym (O (24 * p + f)) (o : Int) (e : Int)]
    rw [this])
  unfold zS
  rw [h, ← pb_n_mul, ← pb_n_mul]
  refine pb_n_ext fun e he => ?_
  by_cases q : (e : Int) < O (24 * p + e)
  · rw [if_pos q, if_pos (decide_eq_true q), inner e he]
    omega
  · rw [if_neg q, if_neg (by rw [decide_eq_true_iff]; exact q)]
theorem vT_at {O : Nat → Int} {p : Nat} {h : Int} (hz : zr O) (hp : p < 6) {e : Nat} (he : e < 24) : vT O p h (24 * p + (z_tn h (e : Int)).toNat) = if O (24 * p + e) ≠ -1 then z_tn h (O (24 * p + e)) else -1 := by
  have r := z_tn_rg (h := h) (e := (e : Int)) (by omega)
  have i := z_tn_inv (h := h) (e := (e : Int)) (by omega)
  unfold vT
  rw [z_lay_v hz.1 hp _ (by omega), show (((z_tn h (e : Int)).toNat : Nat) : Int) = z_tn h (e : Int) by omega, i, show ((e : Int)).toNat = e by omega]
  by_cases q : O (24 * p + e) ≠ -1
  · rw [if_pos ⟨by omega, by omega, q⟩, if_pos q]
  · rw [if_neg (fun a => q a.2.2), if_neg q]
theorem zX_tn {O : Nat → Int} {p : Nat} {h : Int} (hz : zr O) (hp : p < 6) (hh0 : 0 ≤ h ∧ h < 3) {e f : Nat} (he : e < 24) (hf : f < 24) (hPe : O (24 * p + e) ≠ -1) (hPf : O (24 * p + f) ≠ -1) : zX (vT O p h) p (z_tn h (e : Int)).toNat (z_tn h (f : Int)).toNat = zX O p e f := by
  have re := z_tn_rg (h := h) (e := (e : Int)) (by omega)
  have rf := z_tn_rg (h := h) (e := (f : Int)) (by omega)
  obtain ⟨o, o1, o2, o3, o4⟩ := inv_at hz.2 hp he hPe
  obtain ⟨g, g1, g2, g3, g4⟩ := inv_at hz.2 hp hf hPf
  unfold zX
  rw [vT_at hz hp he, vT_at hz hp hf, if_pos hPe, if_pos hPf, show (((z_tn h (e : Int)).toNat : Nat) : Int) = z_tn h (e : Int) by omega, show (((z_tn h (f : Int)).toNat : Nat) : Int) = z_tn h (f : Int) by omega, o3, g3]
  by_cases q1 : f = e
  · subst q1
    have : g = o := by omega
    subst this
    rw [bt_self.1, bt_self.2, bt_self.1, bt_self.2]
  · by_cases q2 : f = o
    · subst q2
      have : g = e := by omega
      subst this
      rw [bt_self.1, bt_self.2, bt_self.1, bt_self.2]
    · have q3 : g ≠ e := by
        intro q
        rw [q, o3] at g4
        omega
      have q4 : g ≠ o := by
        intro q
        rw [q, o4] at g4
        omega
      exact tn_cross hh0 (by omega) (by omega) (by omega) (by omega) (by omega) (by omega) (by omega) (by omega)
theorem zS_tn {O : Nat → Int} {p : Nat} {h : Int} (hz : zr O) (hp : p < 6) (hh0 : 0 ≤ h ∧ h < 3) : zS O p = zS (vT O p h) p := by
  have tau : ∀ e : Nat, e < 24 → (z_tn h (e : Int)).toNat < 24 ∧ (z_tn h (((z_tn h (e : Int)).toNat : Nat) : Int)).toNat = e := by
    intro e he
    have r := z_tn_rg (h := h) (e := (e : Int)) (by omega)
    have i := z_tn_inv (h := h) (e := (e : Int)) (by omega)
    rw [show (((z_tn h (e : Int)).toNat : Nat) : Int) = z_tn h (e : Int) by omega, i]
    omega
  have zpv : ∀ e : Nat, e < 24 → (zp (vT O p h) (24 * p + (z_tn h (e : Int)).toNat) = true ↔ O (24 * p + e) ≠ -1) := by
    intro e he
    rw [zp_t, vT_at hz hp he]
    by_cases q : O (24 * p + e) ≠ -1
    · rw [if_pos q]
      have := hz.1 (24 * p + e) (by omega)
      have r := z_tn_rg (h := h) (e := O (24 * p + e)) (by omega)
      exact ⟨fun _ => q, fun _ => by omega⟩
    · rw [if_neg q]
      exact ⟨fun a => absurd rfl a, fun a => absurd a q⟩
  have back : ∀ t : Nat, t < 24 → zp (vT O p h) (24 * p + t) = true → O (24 * p + (z_tn h (t : Int)).toNat) ≠ -1 := by
    intro t ht hQ
    obtain ⟨a1, a2⟩ := tau t ht
    have := zpv _ a1
    rw [a2] at this
    exact this.mp hQ
  unfold zS
  refine pb_n_bij (P := fun e => zp O (24 * p + e)) (Q := fun e => zp (vT O p h) (24 * p + e)) (u := fun e => pb_c (fun f => zp O (24 * p + f) && zX O p e f) 24) (v := fun e => pb_c (fun f => zp (vT O p h) (24 * p + f) && zX (vT O p h) p e f) 24) (f := fun e => (z_tn h (e : Int)).toNat) (g := fun e => (z_tn h (e : Int)).toNat) (fun e he hP => ?_) (fun t ht hQ => ?_) (fun e he hP => ?_)
  · exact ⟨(tau e he).1, (zpv e he).mpr (zp_t.mp hP), (tau e he).2⟩
  · exact ⟨(tau t ht).1, zp_t.mpr (back t ht hQ), (tau t ht).2⟩
  · have hPe := zp_t.mp hP
    show pb_c (fun f => zp (vT O p h) (24 * p + f) && zX (vT O p h) p (z_tn h (e : Int)).toNat f) 24 = pb_c (fun f => zp O (24 * p + f) && zX O p e f) 24
    refine (pb_c_bij (f := fun f => (z_tn h (f : Int)).toNat) (g := fun f => (z_tn h (f : Int)).toNat) (fun f hf hR => ?_) (fun t ht hR => ?_)).symm
    · rw [Bool.and_eq_true] at hR
      have hPf := zp_t.mp hR.1
      refine ⟨(tau f hf).1, ?_, (tau f hf).2⟩
      show (zp (vT O p h) (24 * p + (z_tn h (f : Int)).toNat) && zX (vT O p h) p (z_tn h (e : Int)).toNat (z_tn h (f : Int)).toNat) = true
      rw [Bool.and_eq_true, zX_tn hz hp hh0 he hf hPe hPf]
      exact ⟨(zpv f hf).mpr hPf, hR.2⟩
    · rw [Bool.and_eq_true] at hR
      obtain ⟨a1, a2⟩ := tau t ht
      have hPf := back t ht hR.1
      refine ⟨a1, ?_, a2⟩
      have x := zX_tn hz hp hh0 he a1 hPe hPf
      rw [a2] at x
      show (zp O (24 * p + (z_tn h (t : Int)).toNat) && zX O p e (z_tn h (t : Int)).toNat) = true
      rw [Bool.and_eq_true, ← x]
      exact ⟨zp_t.mpr hPf, hR.2⟩
theorem prs_tn {O : Nat → Int} {p : Nat} {h : Int} (hz : zr O) (hz' : z_inv (vT O p h)) (hp : p < 6) (hh0 : 0 ≤ h ∧ h < 3) : z_prs (vT O p h) p = z_prs O p := by
  have a := prs_four hz.2 hp
  have b := prs_four hz' hp
  have c := zS_tn hz hp hh0
  unfold z_prs
  omega

section CH4
variable {X : fx_Sc} {M M' : fx_M}
/-- the reference takes up marks: the row behind the columns below c -/
def y_tku (s : Nat → Int) (P : Nat → Bool) (p c : Nat) : Nat → Int := fun k =>
  if (24 * p ≤ k ∧ k < 24 * p + 12) ∧ k - 24 * p < c ∧ z_opn P p (k - 24 * p) = true then 13 + ((k - 24 * p : Nat) : Int) else
  if (24 * p + 12 ≤ k ∧ k < 24 * p + 24) ∧ k - 24 * p - 12 < c ∧ z_opn P p (k - 24 * p - 12) = true then ((k - 24 * p - 12 : Nat) : Int) + 1 else s k
theorem y_tku_0 {s : Nat → Int} {P : Nat → Bool} {p : Nat} : y_tku s P p 0 = s := by
  funext k
  unfold y_tku
  rw [if_neg (by omega), if_neg (by omega)]
theorem y_tku_v (s : Nat → Int) (P : Nat → Bool) (p c j : Nat) (hj : j < 12) : y_tku s P p c (24 * p + j) = if j < c ∧ z_opn P p j = true then 13 + (j : Int) else s (24 * p + j) := by
  unfold y_tku
  rw [show 24 * p + j - 24 * p = j by omega]
  by_cases h : j < c ∧ z_opn P p j = true
  · rw [if_pos ⟨by omega, h⟩, if_pos h]
  · rw [if_neg (fun q => h q.2), if_neg (by omega), if_neg h]
theorem y_tku_w (s : Nat → Int) (P : Nat → Bool) (p c j : Nat) (hj : j < 12) : y_tku s P p c (24 * p + 12 + j) = if j < c ∧ z_opn P p j = true then (j : Int) + 1 else s (24 * p + 12 + j) := by
  unfold y_tku
  rw [show 24 * p + 12 + j - 24 * p - 12 = j by omega, if_neg (by omega)]
  by_cases h : j < c ∧ z_opn P p j = true
  · rw [if_pos ⟨by omega, h⟩, if_pos h]
  · rw [if_neg (fun q => h q.2), if_neg h]
theorem y_tku_o {s : Nat → Int} {P : Nat → Bool} {p c k : Nat} (h : ¬ (24 * p ≤ k ∧ k < 24 * p + 24)) : y_tku s P p c k = s k := by
  unfold y_tku
  rw [if_neg (by omega), if_neg (by omega)]
theorem in24 (p k : Nat) : (∃ j, j < 12 ∧ k = 24 * p + j) ∨ (∃ j, j < 12 ∧ k = 24 * p + 12 + j) ∨ ¬ (24 * p ≤ k ∧ k < 24 * p + 24) := by
  by_cases h : 24 * p ≤ k ∧ k < 24 * p + 24
  · by_cases h2 : k < 24 * p + 12
    · exact Or.inl ⟨k - 24 * p, by omega, by omega⟩
    · exact Or.inr (Or.inl ⟨k - 24 * p - 12, by omega, by omega⟩)
  · exact Or.inr (Or.inr h)
theorem y_tku_n {s : Nat → Int} {P : Nat → Bool} {p c : Nat} (h : ¬ z_opn P p c = true) : y_tku s P p (c + 1) = y_tku s P p c := by
  have hh : ∀ j, (j < c + 1 ∧ z_opn P p j = true) ↔ (j < c ∧ z_opn P p j = true) := by
    intro j
    constructor
    · rintro ⟨h1, h2⟩
      exact ⟨by by_cases q : j = c; (exact absurd (q ▸ h2) h); omega, h2⟩
    · rintro ⟨h1, h2⟩
      exact ⟨by omega, h2⟩
  funext k
  rcases in24 p k with ⟨j, hj, rfl⟩ | ⟨j, hj, rfl⟩ | hk
  · rw [y_tku_v _ _ _ _ j hj, y_tku_v _ _ _ _ j hj]
    simp only [hh]
  · rw [y_tku_w _ _ _ _ j hj, y_tku_w _ _ _ _ j hj]
    simp only [hh]
  · rw [y_tku_o hk, y_tku_o hk]
theorem y_tku_s {s : Nat → Int} {P : Nat → Bool} {p c : Nat} (hc : c < 12) (h : z_opn P p c = true) : y_lnk (y_tku s P p c) p c (12 + c) = y_tku s P p (c + 1) := by
  have hh : ∀ j, j ≠ c → ((j < c + 1 ∧ z_opn P p j = true) ↔ (j < c ∧ z_opn P p j = true)) := by
    intro j hj
    constructor
    · rintro ⟨h1, h2⟩
      exact ⟨by omega, h2⟩
    · rintro ⟨h1, h2⟩
      exact ⟨by omega, h2⟩
  funext k
  show (if k = 24 * p + (12 + c) then (c : Int) + 1 else if k = 24 * p + c then ((12 + c : Nat) : Int) + 1 else y_tku s P p c k) = y_tku s P p (c + 1) k
  rcases in24 p k with ⟨j, hj, rfl⟩ | ⟨j, hj, rfl⟩ | hk
  · rw [if_neg (by omega), y_tku_v _ _ _ _ j hj, y_tku_v _ _ _ _ j hj]
    by_cases q : j = c
    · subst q
      rw [if_pos rfl, if_pos ⟨by omega, h⟩]
      push_cast
      omega
    · rw [if_neg (by omega)]
      simp only [hh j q]
  · rw [y_tku_w _ _ _ _ j hj, y_tku_w _ _ _ _ j hj]
    by_cases q : j = c
    · subst q
      rw [if_pos (by omega), if_pos ⟨by omega, h⟩]
    · rw [if_neg (by omega), if_neg (by omega)]
      simp only [hh j q]
  · rw [if_neg (by omega), if_neg (by omega), y_tku_o hk, y_tku_o hk]
theorem y_tku_rg {s : Nat → Int} {P : Nat → Bool} {p c : Nat} (h : ∀ k, k < 144 → 0 ≤ s k ∧ s k ≤ 24) : ∀ k, k < 144 → 0 ≤ y_tku s P p c k ∧ y_tku s P p c k ≤ 24 := by
  intro k hk
  have := h k hk
  unfold y_tku
  split
  · omega
  · split <;> omega
theorem y_tku_at {s : Nat → Int} {P : Nat → Bool} {p c j : Nat} (hj : c ≤ j) (hj2 : j < 12) : y_tku s P p c (24 * p + j) = s (24 * p + j) ∧ y_tku s P p c (24 * p + 12 + j) = s (24 * p + 12 + j) := by
  rw [y_tku_v _ _ _ _ j hj2, y_tku_w _ _ _ _ j hj2, if_neg (by omega), if_neg (by omega)]
  exact ⟨rfl, rfl⟩
theorem evm_takeUpL {p : Nat} (S : mS M) (hp : 0 < p) (hp6 : p < 6) : Ev X 136 9 [fx_f 56, .inl (p : Int), fx_u, fx_u, fx_u] [] M (some (.inl ((pb_c (z_opn (mh M) p) 12 : Nat) : Int))) (fx_set M 57 (y_tku (M 57) (mh M) p 12)) := by
  refine r136_9 ?_
  have e0 : M = fx_set M 57 (y_tku (M 57) (mh M) p 0) := by rw [y_tku_0, fx_self]
  refine Ev.memL e0 ?_
  refine Ev.loop1 12 (fun c u => [fx_f 56, .inl (p : Int), .inl ((pb_c (z_opn (mh M) p) c : Nat) : Int), .inl (c : Int), u]) (fun c => fx_set M 57 (y_tku (M 57) (mh M) p c)) (fun c hc k u => ?_) (fun u => r136_13T (by omega) (by omega) r136_48) fx_u
  have T : mS (fx_set M 57 (y_tku (M 57) (mh M) p c)) := by
    refine ⟨fun k hk => ?_, fun q hq => ?_⟩
    · rw [fx_sk]; exact y_tku_rg S.1 k hk
    · rw [fx_sk, y_tku_o (by omega)]; exact S.2 q hq
  have hh : ∀ k, (fx_set M 57 (y_tku (M 57) (mh M) p c)) 57 k = M 57 k → mh (fx_set M 57 (y_tku (M 57) (mh M) p c)) k = mh M k := fun k hk => by
    show decide (0 < (fx_set M 57 (y_tku (M 57) (mh M) p c)) 57 k) = decide (0 < M 57 k)
    rw [hk]
  have a1 : mh (fx_set M 57 (y_tku (M 57) (mh M) p c)) (24 * (p - 1) + 12 + c) = mh M (24 * (p - 1) + 12 + c) := hh _ (by rw [fx_sk, y_tku_o (by omega)])
  have a2 : mh (fx_set M 57 (y_tku (M 57) (mh M) p c)) (24 * p + c) = mh M (24 * p + c) := hh _ (by rw [fx_sk]; exact (y_tku_at (Nat.le_refl c) hc).1)
  have a3 : mh (fx_set M 57 (y_tku (M 57) (mh M) p c)) (24 * p + 12 + c) = mh M (24 * p + 12 + c) := hh _ (by rw [fx_sk]; exact (y_tku_at (Nat.le_refl c) hc).2)
  have b1 := evm_has (X := X) T (show 24 * (p - 1) + 12 + c < 144 by omega)
  have b2 := evm_has (X := X) T (show 24 * p + c < 144 by omega)
  have b3 := evm_has (X := X) T (show 24 * p + 12 + c < 144 by omega)
  rw [a1] at b1
  rw [a2] at b2
  rw [a3] at b3
  have i1 : 24 * (p : Int) + (c : Int) - 12 = ((24 * (p - 1) + 12 + c : Nat) : Int) := by omega
  have i2 : 24 * (p : Int) + (c : Int) = ((24 * p + c : Nat) : Int) := by push_cast; rfl
  have i3 : ((24 * p + c : Nat) : Int) + 12 = ((24 * p + 12 + c : Nat) : Int) := by omega
  simp only [pb_c] at k
  have go46 : ¬ z_opn (mh M) p c = true → Ev X 136 46 [fx_f 56, .inl (p : Int), .inl ((pb_c (z_opn (mh M) p) c : Nat) : Int), .inl (c : Int), .inl ((24 * p + c : Nat) : Int)] [] (fx_set M 57 (y_tku (M 57) (mh M) p c)) (some (.inl ((pb_c (z_opn (mh M) p) 12 : Nat) : Int))) (fx_set M 57 (y_tku (M 57) (mh M) p 12)) := by
    intro h
    rw [if_neg h, y_tku_n h] at k
    exact r136_46 (k _)
  refine r136_13F (by omega) (by omega) (r136_16 (by rw [i1]; exact b1) ?_)
  rw [i2]
  have hop : z_opn (mh M) p c = ((mh M (24 * (p - 1) + 12 + c) && !mh M (24 * p + c)) && !mh M (24 * p + 12 + c)) := rfl
  by_cases c1 : mh M (24 * (p - 1) + 12 + c) = true
  · rw [if_pos c1]
    refine r136_27F (by omega) (by omega) (r136_28 b2 ?_)
    by_cases c2 : mh M (24 * p + c) = true
    · rw [if_pos c2]
      exact r136_31T (by omega) (by omega) (go46 (by rw [hop, c2]; simp))
    · rw [if_neg c2]
      refine r136_31F (by omega) rfl (r136_32 (by rw [i3]; exact b3) ?_)
      by_cases c3 : mh M (24 * p + 12 + c) = true
      · rw [if_pos c3]
        exact r136_37T (by omega) (by omega) (go46 (by rw [hop, c3]; simp))
      · rw [if_neg c3]
        have ho : z_opn (mh M) p c = true := by rw [hop, c1, Bool.eq_false_iff.mpr c2, Bool.eq_false_iff.mpr c3]; rfl
        rw [if_pos ho, ← y_tku_s hc ho] at k
        refine r136_37F (by omega) rfl (r136_38 (M1 := fx_set M 57 (y_lnk (y_tku (M 57) (mh M) p c) p c (12 + c))) ?_ (r136_45 (k _)))
        have jn := evm_joins (X := X) (M := fx_set M 57 (y_tku (M 57) (mh M) p c)) (p := p) (e := c) (o := 12 + c) hp6 (by omega) (by omega)
        rw [fx_ss, fx_sk] at jn
        push_cast at jn
        exact jn
  · rw [if_neg c1]
    exact r136_27T (by omega) rfl (go46 (by rw [hop, Bool.eq_false_iff.mpr c1]; simp))
theorem tku_eq {O s : Nat → Int} {P : Nat → Bool} {p : Nat} (h : ∀ k, k < 144 → s k = O k + 1) : ∀ k, k < 144 → y_tku s P p 12 k = z_tku O P p 12 k + 1 := by
  intro k hk
  rcases in24 p k with ⟨j, hj, rfl⟩ | ⟨j, hj, rfl⟩ | hk'
  · rw [y_tku_v _ _ _ _ j hj, z_tku_v _ _ _ j hj]
    by_cases q : z_opn P p j = true
    · rw [if_pos ⟨hj, q⟩, if_pos q]; omega
    · rw [if_neg (fun a => q a.2), if_neg q]; exact h _ hk
  · rw [y_tku_w _ _ _ _ j hj, z_tku_w _ _ _ j hj]
    by_cases q : z_opn P p j = true
    · rw [if_pos ⟨hj, q⟩, if_pos q]
    · rw [if_neg (fun a => q a.2), if_neg q]; exact h _ hk
  · rw [y_tku_o hk', z_tku_o _ _ hk']; exact h k hk
theorem z_opn_x {P Q : Nat → Bool} (h : zA P Q) {p c : Nat} (hp : 0 < p) (hp6 : p < 6) (hc : c < 12) : z_opn P p c = z_opn Q p c := by
  unfold z_opn
  rw [h _ (by omega), h (24 * p + c) (by omega), h (24 * p + 12 + c) (by omega)]
theorem y_tku_x {s : Nat → Int} {P Q : Nat → Bool} (h : zA P Q) {p : Nat} (hp : 0 < p) (hp6 : p < 6) : y_tku s P p 12 = y_tku s Q p 12 := by
  funext k
  rcases in24 p k with ⟨j, hj, rfl⟩ | ⟨j, hj, rfl⟩ | hk'
  · rw [y_tku_v _ _ _ _ j hj, y_tku_v _ _ _ _ j hj, z_opn_x h hp hp6 hj]
  · rw [y_tku_w _ _ _ _ j hj, y_tku_w _ _ _ _ j hj, z_opn_x h hp hp6 hj]
  · rw [y_tku_o hk', y_tku_o hk']
theorem op_takeUp {x1 : Int} (hI : cI M) (h1 : pR x1) : OP X M 15 136 [.inl x1] [.inl x1, fx_u, fx_u, fx_u] := by
  obtain ⟨S1, S2, hA, hO, hH, hi, hi2, hz, hz2⟩ := sD_of hI.1
  by_cases hp : 1 ≤ x1 ∧ x1 < 6
  · obtain ⟨p, rfl⟩ := nat_of (show 0 ≤ x1 by omega)
    have hp6 : p < 6 := by omega
    have hp0 : 0 < p := by omega
    obtain ⟨n, a, ha6, rem, recd, fin⟩ := chg_D (X := X) hI
    obtain ⟨MC, hMC⟩ : ∃ MC : fx_M, MC = fx_set (y_rm M n a) 2 (z_tku (M 2) (ph M 1) p 12) := ⟨_, rfl⟩
    have C : ∀ r, 4 < r → MC r = y_rm M n a r := fun r hr => by rw [hMC, fx_sn (by omega)]
    have C2 : MC 2 = z_tku (M 2) (ph M 1) p 12 := by rw [hMC, fx_sk]
    have C3 : MC 3 = M 3 := by rw [hMC, fx_sn (by omega), y_rm_o ha6 (by omega)]
    have e57 : MC 57 = M 57 := by rw [C 57 (by omega), y_rm_o ha6 (by omega)]
    have e56 : MC 56 = M 56 := by rw [C 56 (by omega), y_rm_o ha6 (by omega)]
    have r57 : y_rec MC n 57 = M 57 := by rw [y_rec_o (by omega) (by omega), e57]
    obtain ⟨MM, hMM⟩ : ∃ MM : fx_M, MM = fx_set (y_rec MC n) 57 (y_tku (M 57) (ph M 1) p 12) := ⟨_, rfl⟩
    have s1 : ∀ k, k < 144 → M 57 k = M 2 k + 1 := fun k hk => by have := hO k hk; unfold mO at this; omega
    obtain ⟨f1, f2, f3⟩ := chg_fin (O' := z_tku (M 2) (ph M 1) p 12) (H' := M 3) (s' := y_tku (M 57) (ph M 1) p 12) (MM := MM) hI ha6 fin C C2 C3 (fun r r1 r2 => by rw [hMM, fx_sn r1]) (by rw [hMM, fx_sk]) (z_tku_rg S1.2.1) S1.2.2 (z_inv_tku hi hp6 (fun k hk => by
      show decide (M 2 k ≠ -1) = false ↔ M 2 k = -1
      rw [decide_eq_false_iff_not, Classical.not_not])) (tku_eq s1) (fun q hq => by rw [y_tku_o (by omega)]; exact hH q hq)
    have SR : pS (y_rm M n a) 1 := pS_f S1 (y_rm_o ha6 (by omega)) (y_rm_o ha6 (by omega))
    have er2 : y_rm M n a 2 = M 2 := y_rm_o ha6 (by omega)
    have ep : ph (y_rm M n a) 1 = ph M 1 := by unfold ph; rw [show y_rm M n a (1 + 1) = M (1 + 1) from er2]
    have b := pb_c_le (z_opn (ph M 1) p) 12
    refine ⟨((pb_c (z_opn (ph M 1) p) 12 : Nat) : Int), MC, MM, ?_, ?_, f1, by constructor <;> omega⟩
    · have tk := ev_takeUpS (X := X) SR hp0 hp6
      rw [ep, show y_rm M n a (1 + 1) = M 2 from er2] at tk
      rw [show (1 : Nat) + 1 = 2 from rfl, ← hMC] at tk
      exact r15_0 (ev_isPanel_y (by omega)) (r15_2F (by omega) (by omega) (r15_3T h1 (by omega) (r15_7 rem (r15_12 tk r15_16))))
    · have tk := evm_takeUpL (X := X) (M := y_rec MC n) (mS_f S2 r57) hp0 hp6
      have eh : mh (y_rec MC n) = mh M := by unfold mh; rw [r57]
      rw [eh, r57, ← y_tku_x hA hp0 hp6, ← hMM, ← pb_c_ext (P := z_opn (ph M 1) p) (fun c hc => z_opn_x hA hp0 hp6 hc)] at tk
      exact r136_0 (evm_in_y (by omega) h1 (by decide) (by decide)) (r136_4T (by omega) (by omega) (r136_7 (recd MC (by rw [e56])) tk))
  · refine OP_read (z := -1) hI ?_ (frC_r M) (r136_0 (evm_in_n (by omega) h1 (by decide) (by decide)) (r136_4F (by omega) rfl r136_5)) (frM_r M) (by decide)
    by_cases h0 : x1 = 0
    · exact r15_0 (ev_isPanel_y (by omega)) (r15_2F (by omega) (by omega) (r15_3F h1 h0 r15_5))
    · exact r15_0 (ev_isPanel_n h1 (by omega)) (r15_2T (by omega) rfl r15_5)
end CH4

theorem lay_eq {mu nu : Int → Int} {O s : Nat → Int} {p : Nat} (hr : ∀ k, k < 144 → -1 ≤ O k ∧ O k < 24) (hp : p < 6) (h : ∀ k, k < 144 → s k = O k + 1) : ∀ k, k < 144 → y_lay mu nu s p 24 k = z_lay mu nu O p 24 k + 1 := by
  intro k hk
  by_cases c : 24 * p ≤ k ∧ k < 24 * p + 24
  · obtain ⟨j, rfl⟩ : ∃ j, k = 24 * p + j := ⟨k - 24 * p, by omega⟩
    rw [z_lay_v hr hp j (by omega)]
    unfold y_lay
    rw [if_pos c, show (((24 * p + j : Nat) : Int) - 24 * p) = (j : Int) by push_cast; omega]
    by_cases q : 0 ≤ nu j ∧ nu j < 24
    · have e := h (24 * p + (nu j).toNat) (by omega)
      have b := hr (24 * p + (nu j).toNat) (by omega)
      by_cases q2 : O (24 * p + (nu j).toNat) = -1
      · rw [if_neg (by omega), if_neg (by omega)]; rfl
      · rw [if_pos (by omega), if_pos (by omega), e]
        congr 2
        omega
    · rw [if_neg (by omega), if_neg (by omega)]; rfl
  · rw [z_lay_o c]
    unfold y_lay
    rw [if_neg c]
    exact h k hk
theorem y_lay_hi {mu nu : Int → Int} {s : Nat → Int} {p k : Nat} (hp : p < 6) (hk : 144 ≤ k) : y_lay mu nu s p 24 k = s k := by
  unfold y_lay
  rw [if_neg (by omega)]
section CH3
variable {X : fx_Sc} {M M' : fx_M}
theorem chg_lay {n a p : Nat} {mu nu : Int → Int} (hI : cI M) (ha : a < 6) (hp : p < 6)
    (fin : ∀ MC MM : fx_M, (∀ r, 4 < r → r ≠ 17 → MC r = y_rm M n a r) → (∀ r, r ≠ 56 → r ≠ 57 → r ≠ 58 → r ≠ 69 → MM r = y_rec MC n r) → MM 56 16 = y_rec MC n 56 16 → sE MM 1 57 0 → pI MM → cI MM)
    (hn : ∀ e : Nat, e < 24 → M 2 (24 * p + e) ≠ -1 → nu (mu e) = e ∧ 0 ≤ mu e ∧ mu e < 24) (hm : ∀ t : Nat, t < 24 → 0 ≤ nu t → nu t < 24 → M 2 (24 * p + (nu t).toNat) ≠ -1 → mu (nu t) = t) :
    ∃ MM : fx_M, MM = y_lM (y_rec (z_lM (y_rm M n a) 1 mu nu p 24) n) mu nu p 24 ∧ cI MM ∧ pS (z_lM (y_rm M n a) 1 mu nu p 24) 1 ∧ ph MM 1 = ph (z_lM (y_rm M n a) 1 mu nu p 24) 1 := by
  obtain ⟨S1, S2, hA, hO, hH, hi, hi2, hz, hz2⟩ := sD_of hI.1
  have C : ∀ r, 4 < r → z_lM (y_rm M n a) 1 mu nu p 24 r = y_rm M n a r := fun r hr => by unfold z_lM; rw [fx_sn (by omega), fx_sn (by omega)]
  have r2 : y_rm M n a (1 + 1) = M 2 := y_rm_o ha (by omega)
  have C2 : z_lM (y_rm M n a) 1 mu nu p 24 2 = z_lay mu nu (M 2) p 24 := by
    unfold z_lM
    rw [show (2 : Nat) = 1 + 1 from rfl, fx_sk, r2]
  have C3 : z_lM (y_rm M n a) 1 mu nu p 24 3 = M 3 := by unfold z_lM; rw [fx_sn (by omega), fx_sn (by omega), y_rm_o ha (by omega)]
  have r57 : y_rec (z_lM (y_rm M n a) 1 mu nu p 24) n 57 = M 57 := by rw [y_rec_o (by omega) (by omega), C 57 (by omega), y_rm_o ha (by omega)]
  have s1 : ∀ k, k < 144 → M 57 k = M 2 k + 1 := fun k hk => by have := hO k hk; unfold mO at this; omega
  have g := chg_fin (MC := z_lM (y_rm M n a) 1 mu nu p 24) (MM := y_lM (y_rec (z_lM (y_rm M n a) 1 mu nu p 24) n) mu nu p 24) (O' := z_lay mu nu (M 2) p 24) (H' := M 3) (s' := y_lay mu nu (M 57) p 24) hI ha fin C C2 C3 (fun r h1 h2 => by unfold y_lM; rw [fx_sn h1, fx_sn h2]) (by unfold y_lM; rw [fx_sk, r57]) (z_lay_rg S1.2.1 hi hp hn) S1.2.2 (z_inv_lay S1.2.1 hi hp hn hm) (lay_eq S1.2.1 hp s1) (fun q hq => by rw [y_lay_hi hp (by omega)]; exact hH q hq)
  exact ⟨_, rfl, g⟩
theorem op_slide {x1 x2 : Int} (hI : cI M) (h1 : pR x1) (h2 : pR x2) : OP X M 11 125 [.inl x1, .inl x2] [.inl x1, .inl x2] := by
  obtain ⟨S1, S2, hA, hO, hH, hi, hi2, hz, hz2⟩ := sD_of hI.1
  by_cases hp : 0 ≤ x1 ∧ x1 < 6
  · obtain ⟨p, rfl⟩ := nat_of hp.1
    have hp6 : p < 6 := by omega
    have c0 : ∀ z M', Ev X 11 5 [fx_f 0, .inl (p : Int), .inl x2] [] M (some (.inl z)) M' → Ev X 11 0 [fx_f 0, .inl (p : Int), .inl x2] [] M (some (.inl z)) M' := fun z M' k => r11_0 (ev_isPanel_y hp) (r11_2T (by omega) (by omega) k)
    have m0 : ∀ (M1 : fx_M) z M', Ev X 125 5 [fx_f 56, .inl (p : Int), .inl x2] [] M1 (some (.inl z)) M' → Ev X 125 0 [fx_f 56, .inl (p : Int), .inl x2] [] M1 (some (.inl z)) M' := fun M1 z M' k => r125_0 (evm_isPanel_y hp) (r125_2T (by omega) (by omega) k)
    by_cases hx : (-12 < x2 ∧ x2 < 12) ∧ x2 ≠ 0
    · have c1 : ∀ z M', Ev X 11 20 [fx_f 0, .inl (p : Int), .inl x2] [.inl (if z_can (ph M 1) p x2 = true then 1 else 0)] M (some (.inl z)) M' → Ev X 11 0 [fx_f 0, .inl (p : Int), .inl x2] [] M (some (.inl z)) M' := fun z M' k => c0 z M' (r11_5F h2 (by omega) (r11_8F h2 (by omega) (r11_11T h2 hx.2 (r11_15 (ev_canShift S1 hp6 hx.1) k))))
      have m1 : ∀ (M1 : fx_M) (T : mS M1) z M', Ev X 125 18 [fx_f 56, .inl (p : Int), .inl x2] [.inl (if z_can (mh M1) p x2 = true then 1 else 0)] M1 (some (.inl z)) M' → Ev X 125 0 [fx_f 56, .inl (p : Int), .inl x2] [] M1 (some (.inl z)) M' := fun M1 T z M' k => m0 M1 z M' (r125_5 (evm_in_y (by omega) h2 (by decide) (by decide)) (r125_9F (by omega) (by omega) (r125_10T h2 hx.2 (r125_14 (evm_canSlide T hp6 hx.1) k))))
      have ec : z_can (mh M) p x2 = z_can (ph M 1) p x2 := (z_can_x hA hp6).symm
      by_cases hc : z_can (ph M 1) p x2 = true
      · obtain ⟨n, a, ha6, rem, recd, fin⟩ := chg_D (X := X) hI
        have hn : ∀ e : Nat, e < 24 → M 2 (24 * p + e) ≠ -1 → (fun t => t - x2) ((fun e => e + x2) (e : Int)) = e ∧ 0 ≤ (fun e => e + x2) (e : Int) ∧ (fun e => e + x2) (e : Int) < 24 := by
          intro e he hne
          have := z_can_end hc he (decide_eq_true hne)
          show (e : Int) + x2 - x2 = e ∧ 0 ≤ (e : Int) + x2 ∧ (e : Int) + x2 < 24
          by_cases q : e < 12
          · have := this.1 q; omega
          · have := this.2 (by omega); omega
        obtain ⟨MM, hMM, f1, f2, f3⟩ := chg_lay (mu := fun e => e + x2) (nu := fun t => t - x2) hI ha6 hp6 fin hn (fun t _ _ _ _ => by show (t : Int) - x2 + x2 = t; omega)
        obtain ⟨MC, hMC⟩ : ∃ MC : fx_M, MC = z_lM (y_rm M n a) 1 (fun e => e + x2) (fun t => t - x2) p 24 := ⟨_, rfl⟩
        rw [← hMC] at hMM f2 f3
        have C : ∀ r, 44 < r → MC r = M r := fun r hr => by rw [hMC]; unfold z_lM; rw [fx_sn (by omega), fx_sn (by omega), y_rm_o ha6 (by omega)]
        have e57 : MC 57 = M 57 := C 57 (by omega)
        have SR : pS (y_rm M n a) 1 := pS_f S1 (y_rm_o ha6 (by omega)) (y_rm_o ha6 (by omega))
        have er2 : y_rm M n a (1 + 1) = M 2 := y_rm_o ha6 (by omega)
        have ep : ph (y_rm M n a) 1 = ph M 1 := by unfold ph; rw [er2]
        have b := z_loose_b (ph MC 1)
        have ml := mloose (X := X) f1.1
        rw [f3] at ml
        refine ⟨(z_loose (ph MC 1) : Int), MC, MM, ?_, ?_, f1, by constructor <;> omega⟩
        · rw [if_pos hc] at c1
          have sh := ev_shift (X := X) SR (by rw [er2]; exact hi) hp6 hx.1 (by rw [ep]; exact hc)
          rw [← hMC] at sh
          exact c1 _ _ (r11_20T (by omega) (by omega) (r11_23 rem (r11_28 sh (r11_33 (ev_looseEnds f2) r11_36))))
        · have m2 := m1 MC (mS_f S2 e57)
          rw [show mh MC = mh M by unfold mh; rw [e57], ec, if_pos hc] at m2
          have r57 : y_rec MC n 57 = M 57 := by rw [y_rec_o (by omega) (by omega), e57]
          have la := evm_lays (X := X) (M := y_rec MC n) (p := p) (x := x2) (mi := 0) (ov := 0) (mu := fun e => e + x2) (nu := fun t => t - x2) (by rw [r57]; exact S2.1) hp6 (fun e M he => evm_movedS he) (fun e he h0 => by
            rw [r57] at h0
            refine hn e he ?_
            have := hO (24 * p + e) (by omega)
            unfold mO at this
            omega) (fun t _ _ _ _ => by show (t : Int) - x2 + x2 = t; omega)
          rw [← hMM] at la
          exact m2 _ _ (r125_18T (by omega) (by omega) (r125_21 (recd MC (by rw [C 56 (by omega)])) (r125_23 la (r125_29 ml r125_31))))
      · have m2 := m1 M S2
        rw [ec, if_neg hc] at m2
        rw [if_neg hc] at c1
        exact OP_read hI (c1 _ _ (r11_20F (by omega) rfl r11_21)) (frC_r M) (m2 _ _ (r125_18F (by omega) rfl r125_19)) (frM_r M) (by decide)
    · refine OP_read (z := -2) hI (c0 _ _ ?_) (frC_r M) (m0 _ _ _ ?_) (frM_r M) (by decide)
      · by_cases q1 : x2 ≤ -12
        · exact r11_5T h2 q1 r11_13
        · by_cases q2 : 12 ≤ x2
          · exact r11_5F h2 (by omega) (r11_8T h2 q2 r11_13)
          · exact r11_5F h2 (by omega) (r11_8F h2 (by omega) (r11_11F h2 (by omega) r11_13))
      · by_cases q1 : -12 < x2 ∧ x2 < 12
        · exact r125_5 (evm_in_y (by omega) h2 (by decide) (by decide)) (r125_9F (by omega) (by omega) (r125_10F h2 (by omega) r125_12))
        · exact r125_5 (evm_in_n (by omega) h2 (by decide) (by decide)) (r125_9T (by omega) rfl r125_12)
  · exact OP_read hI (r11_0 (ev_isPanel_n h1 (by omega)) (r11_2F (by omega) rfl r11_3)) (frC_r M) (r125_0 (evm_isPanel_n h1 (by omega)) (r125_2F (by omega) rfl r125_3)) (frM_r M) (by decide)
theorem op_turn {x1 x2 : Int} (hI : cI M) (h1 : pR x1) (h2 : pR x2) : OP X M 12 133 [.inl x1, .inl x2] [.inl x1, .inl x2] := by
  obtain ⟨S1, S2, hA, hO, hH, hi, hi2, hz, hz2⟩ := sD_of hI.1
  by_cases hp : 0 ≤ x1 ∧ x1 < 6
  · obtain ⟨p, rfl⟩ := nat_of hp.1
    have hp6 : p < 6 := by omega
    have c0 : ∀ z M', Ev X 12 5 [fx_f 0, .inl (p : Int), .inl x2] [] M (some (.inl z)) M' → Ev X 12 0 [fx_f 0, .inl (p : Int), .inl x2] [] M (some (.inl z)) M' := fun z M' k => r12_0 (ev_isPanel_y hp) (r12_2T (by omega) (by omega) k)
    have m0 : ∀ (M1 : fx_M) z M', Ev X 133 5 [fx_f 56, .inl (p : Int), .inl x2] [] M1 (some (.inl z)) M' → Ev X 133 0 [fx_f 56, .inl (p : Int), .inl x2] [] M1 (some (.inl z)) M' := fun M1 z M' k => r133_0 (evm_isPanel_y hp) (r133_2T (by omega) (by omega) k)
    by_cases hx : 0 ≤ x2 ∧ x2 < 3
    · obtain ⟨n, a, ha6, rem, recd, fin⟩ := chg_D (X := X) hI
      have hn : ∀ e : Nat, e < 24 → z_tn x2 (z_tn x2 (e : Int)) = e ∧ 0 ≤ z_tn x2 (e : Int) ∧ z_tn x2 (e : Int) < 24 := fun e he => ⟨z_tn_inv (by omega), z_tn_rg (by omega)⟩
      obtain ⟨MM, hMM, f1, f2, f3⟩ := chg_lay (mu := z_tn x2) (nu := z_tn x2) hI ha6 hp6 fin (fun e he _ => hn e he) (fun t ht _ _ _ => (hn t ht).1)
      obtain ⟨MC, hMC⟩ : ∃ MC : fx_M, MC = z_lM (y_rm M n a) 1 (z_tn x2) (z_tn x2) p 24 := ⟨_, rfl⟩
      rw [← hMC] at hMM f2 f3
      have C : ∀ r, 44 < r → MC r = M r := fun r hr => by rw [hMC]; unfold z_lM; rw [fx_sn (by omega), fx_sn (by omega), y_rm_o ha6 (by omega)]
      have e57 : MC 57 = M 57 := C 57 (by omega)
      have SR : pS (y_rm M n a) 1 := pS_f S1 (y_rm_o ha6 (by omega)) (y_rm_o ha6 (by omega))
      have er2 : y_rm M n a (1 + 1) = M 2 := y_rm_o ha6 (by omega)
      have b := z_loose_b (ph MC 1)
      have ml := mloose (X := X) f1.1
      rw [f3] at ml
      refine ⟨(z_loose (ph MC 1) : Int), MC, MM, ?_, ?_, f1, by constructor <;> omega⟩
      · have sh := ev_flip (X := X) (h := x2) SR (by rw [er2]; exact hi) hp6 hx
        rw [← hMC] at sh
        exact c0 _ _ (r12_5 (ev_isTurn_y hx) (r12_7T (by omega) (by omega) (r12_10 rem (r12_15 sh (r12_20 (ev_looseEnds f2) r12_23)))))
      · have r57 : y_rec MC n 57 = M 57 := by rw [y_rec_o (by omega) (by omega), e57]
        have la := evm_lays (X := X) (M := y_rec MC n) (p := p) (x := 0) (mi := if x2 ≠ 1 then 1 else 0) (ov := if x2 ≠ 0 then 1 else 0) (mu := z_tn x2) (nu := z_tn x2) (by rw [r57]; exact S2.1) hp6 (fun e M he => evm_movedT he hx) (fun e he _ => hn e he) (fun t ht _ _ _ => (hn t ht).1)
        rw [← hMM] at la
        refine m0 _ _ _ (r133_5 (evm_in_y (by omega) h2 (by decide) (by decide)) (r133_9T (by omega) (by omega) (r133_12 (recd MC (by rw [C 56 (by omega)])) ?_)))
        by_cases q1 : x2 = 1
        · rw [if_neg (by omega), if_pos (by omega)] at la
          exact r133_14T h2 q1 (r133_22F h2 (by omega) (r133_25 la (r133_29 ml r133_31)))
        · by_cases q0 : x2 = 0
          · rw [if_pos q1, if_neg (by omega)] at la
            exact r133_14F h2 q1 (r133_20T h2 q0 (r133_27 la (r133_29 ml r133_31)))
          · rw [if_pos q1, if_pos q0] at la
            exact r133_14F h2 q1 (r133_20F h2 q0 (r133_25 la (r133_29 ml r133_31)))
    · exact OP_read hI (c0 _ _ (r12_5 (ev_isTurn_n h2 (by omega)) (r12_7F (by omega) rfl r12_8))) (frC_r M) (m0 _ _ _ (r133_5 (evm_in_n (by omega) h2 (by decide) (by decide)) (r133_9F (by omega) rfl r133_10))) (frM_r M) (by decide)
  · exact OP_read hI (r12_0 (ev_isPanel_n h1 (by omega)) (r12_2F (by omega) rfl r12_3)) (frC_r M) (r133_0 (evm_isPanel_n h1 (by omega)) (r133_2F (by omega) rfl r133_3)) (frM_r M) (by decide)
end CH3

/-! the slide with the fewest loose ends -/
def cS (k : Nat) : Int := if k % 2 = 0 then -1 - ((k / 2 : Nat) : Int) else 1 + ((k / 2 : Nat) : Int)
def vS (O : Nat → Int) (p : Nat) (x : Int) : Nat := z_loose (fun k => decide (z_lay (fun e => e + x) (fun t => t - x) O p 24 k ≠ -1))
def bs (Q : Int → Bool) (V : Int → Nat) (w : Nat) : Nat → Int × Int
  | 0 => (0, (w : Int))
  | k + 1 => if Q (cS k) = true ∧ (V (cS k) : Int) < (bs Q V w k).2 then (cS k, (V (cS k) : Int)) else bs Q V w k
theorem cS_b {k : Nat} (h : k < 22) : -12 < cS k ∧ cS k < 12 := by
  unfold cS
  split <;> omega
theorem bs_1 {Q : Int → Bool} {V : Int → Nat} {w k : Nat} (h : Q (cS k) = true ∧ (V (cS k) : Int) < (bs Q V w k).2) : bs Q V w (k + 1) = (cS k, (V (cS k) : Int)) := by rw [bs, if_pos h]
theorem bs_2 {Q : Int → Bool} {V : Int → Nat} {w k : Nat} (h : ¬ (Q (cS k) = true ∧ (V (cS k) : Int) < (bs Q V w k).2)) : bs Q V w (k + 1) = bs Q V w k := by rw [bs, if_neg h]
theorem bs_b {Q : Int → Bool} {V : Int → Nat} {w : Nat} (hw : w ≤ 60) (k : Nat) (hk : k ≤ 22) : (0 ≤ (bs Q V w k).2 ∧ (bs Q V w k).2 ≤ 60) ∧ (-12 ≤ (bs Q V w k).1 ∧ (bs Q V w k).1 ≤ 12) := by
  induction k with
  | zero => exact ⟨by show (0 : Int) ≤ w ∧ (w : Int) ≤ 60; omega, by show (-12 : Int) ≤ 0 ∧ (0 : Int) ≤ 12; omega⟩
  | succ k ih =>
    have := ih (by omega)
    have c := cS_b (k := k) (by omega)
    by_cases h : Q (cS k) = true ∧ (V (cS k) : Int) < (bs Q V w k).2
    · rw [bs_1 h]
      exact ⟨by show 0 ≤ (V (cS k) : Int) ∧ (V (cS k) : Int) ≤ 60; omega, by show -12 ≤ cS k ∧ cS k ≤ 12; omega⟩
    · rw [bs_2 h]; exact this
theorem z_lay_x {mu nu : Int → Int} {O O' : Nat → Int} {p : Nat} (hp : p < 6) (h : ∀ k, k < 144 → O k = O' k) : ∀ k, k < 144 → z_lay mu nu O p 24 k = z_lay mu nu O' p 24 k := by
  intro k hk
  unfold z_lay
  by_cases c : 24 * p ≤ k ∧ k < 24 * p + 24
  · rw [if_pos c, if_pos c]
    by_cases q : 0 ≤ nu ((k : Int) - 24 * p) ∧ nu ((k : Int) - 24 * p) < 24
    · rw [h (24 * p + (nu ((k : Int) - 24 * p)).toNat) (by omega)]
    · rw [if_neg (fun a => q ⟨a.1.1, a.1.2.1⟩), if_neg (fun a => q ⟨a.1.1, a.1.2.1⟩)]
  · rw [if_neg c, if_neg c]
    exact h k hk
section BS
variable {X : fx_Sc} {M M' : fx_M}
theorem sh_hn {P : Nat → Bool} {O : Nat → Int} {p : Nat} {x : Int} (hc : z_can P p x = true) (hP : ∀ k, k < 144 → O k ≠ -1 → P k = true) (hp : p < 6) : ∀ e : Nat, e < 24 → O (24 * p + e) ≠ -1 → (fun t => t - x) ((fun e => e + x) (e : Int)) = e ∧ 0 ≤ (fun e => e + x) (e : Int) ∧ (fun e => e + x) (e : Int) < 24 := by
  intro e he hne
  have := z_can_end hc he (hP _ (by omega) hne)
  show (e : Int) + x - x = e ∧ 0 ≤ (e : Int) + x ∧ (e : Int) + x < 24
  by_cases q : e < 12
  · have := this.1 q; omega
  · have := this.2 (by omega); omega
theorem ev_ifS {Mc : fx_M} {p : Nat} {x : Int} (hI : sE M 1 57 0) (f : frC Mc M) (hp : p < 6) (hx : -12 < x ∧ x < 12) (hc : z_can (ph M 1) p x = true) : ∃ Mc' : fx_M, Ev X 27 0 [fx_f 0, .inl (p : Int), .inl x] [] Mc (some (.inl (vS (M 2) p x : Int))) Mc' ∧ frC Mc' M := by
  obtain ⟨S1, S2, hA, hO, hH, hi, hi2, hz, hz2⟩ := sD_of hI
  have e2 : Mc 2 = M 2 := f 2 (by omega)
  obtain ⟨t1, t2, t3, t4, t5⟩ := try_D (M := Mc) (pS_f S1 e2 (f 3 (by omega))) (by rw [e2]; exact hi)
  have hA5 : zA (ph (y_tr Mc) 5) (ph M 1) := fun k hk => by
    show decide (y_tr Mc 6 k ≠ -1) = decide (M 2 k ≠ -1)
    rw [t3 k hk, e2]
  have hc5 : z_can (ph (y_tr Mc) 5) p x = true := by rw [z_can_x hA5 hp]; exact hc
  obtain ⟨Mc', hMc⟩ : ∃ Mc' : fx_M, Mc' = z_lM (y_tr Mc) 5 (fun e => e + x) (fun t => t - x) p 24 := ⟨_, rfl⟩
  have sh := ev_shift (X := X) t1 t2 hp hx hc5
  rw [← hMc] at sh
  have hn := sh_hn (O := y_tr Mc 6) hc5 (fun k _ h => decide_eq_true h) hp
  have c6 : Mc' 6 = z_lay (fun e => e + x) (fun t => t - x) (y_tr Mc 6) p 24 := by rw [hMc]; unfold z_lM; rw [show (6 : Nat) = 5 + 1 from rfl, fx_sk]
  have c7 : Mc' 7 = y_tr Mc 7 := by rw [hMc]; unfold z_lM; rw [fx_sn (by omega), fx_sn (by omega)]
  have P : pS Mc' 5 := ⟨isS5, fun k hk => by show -1 ≤ Mc' 6 k ∧ Mc' 6 k < 24; rw [c6]; exact z_lay_rg t1.2.1 t2 hp hn k hk, fun q hq => by show 0 ≤ Mc' 7 q ∧ Mc' 7 q < 6; rw [c7]; exact t1.2.2 q hq⟩
  have ez : z_loose (ph Mc' 5) = vS (M 2) p x := by
    refine z_loose_x fun k hk => ?_
    show decide (Mc' 6 k ≠ -1) = decide (z_lay (fun e => e + x) (fun t => t - x) (M 2) p 24 k ≠ -1)
    rw [c6, z_lay_x hp (fun k hk => by rw [t3 k hk, e2]) k hk]
  have le := ev_looseEnds (X := X) P
  rw [ez] at le
  refine ⟨Mc', r27_0 ev_try (r27_5 sh (r27_10 le r27_13)), fun r hr => ?_⟩
  rw [hMc]
  unfold z_lM
  rw [fx_sn (by omega), fx_sn (by omega), t5 r (by omega) (by omega), f r hr]
/-- the reference lays a panel slid, counts, and puts back -/
theorem evm_ifS {MK : fx_M} {p : Nat} {x : Int} (hI : sE M 1 57 0) (h57 : MK 57 = M 57) (hp : p < 6) (hx : -12 < x ∧ x < 12) (hc : z_can (ph M 1) p x = true) :
    Ev X 127 0 [fx_f 56, .inl (p : Int), .inl x, .inl 0, .inl 0, fx_u, fx_u] [] MK none (y_lM MK (fun e => e + x) (fun t => t - x) p 24) ∧ Ev X 129 0 [fx_f 56] [] (y_lM MK (fun e => e + x) (fun t => t - x) p 24) (some (.inl (vS (M 2) p x : Int))) (y_lM MK (fun e => e + x) (fun t => t - x) p 24) := by
  obtain ⟨S1, S2, hA, hO, hH, hi, hi2, hz, hz2⟩ := sD_of hI
  have s1 : ∀ k, k < 144 → M 57 k = M 2 k + 1 := fun k hk => by have := hO k hk; unfold mO at this; omega
  have hn := sh_hn (O := M 2) hc (fun k _ h => decide_eq_true h) hp
  have la := evm_lays (X := X) (M := MK) (p := p) (x := x) (mi := 0) (ov := 0) (mu := fun e => e + x) (nu := fun t => t - x) (by rw [h57]; exact S2.1) hp (fun e M he => evm_movedS he) (fun e he h0 => by
    rw [h57] at h0
    exact hn e he (by have := s1 (24 * p + e) (by omega); omega)) (fun t _ _ _ _ => by show (t : Int) - x + x = t; omega)
  refine ⟨la, ?_⟩
  have v57 : (y_lM MK (fun e => e + x) (fun t => t - x) p 24) 57 = y_lay (fun e => e + x) (fun t => t - x) (M 57) p 24 := by unfold y_lM; rw [fx_sk, h57]
  have le := lay_eq (mu := fun e => e + x) (nu := fun t => t - x) S1.2.1 hp s1
  have rg := z_lay_rg (mu := fun e => e + x) (nu := fun t => t - x) (c := 24) S1.2.1 hi hp hn
  have T : mS (y_lM MK (fun e => e + x) (fun t => t - x) p 24) := by
    refine ⟨fun k hk => ?_, fun q hq => ?_⟩
    · rw [v57, le k hk]
      have b : -1 ≤ z_lay (fun e => e + x) (fun t => t - x) (M 2) p 24 k ∧ z_lay (fun e => e + x) (fun t => t - x) (M 2) p 24 k < 24 := rg k hk
      show 0 ≤ z_lay (fun e => e + x) (fun t => t - x) (M 2) p 24 k + 1 ∧ z_lay (fun e => e + x) (fun t => t - x) (M 2) p 24 k + 1 ≤ 24
      omega
    · rw [v57, y_lay_hi hp (by omega)]; exact S2.2 q hq
  have m := evm_loose (X := X) T
  rw [z_loose_c] at m
  have e : z_loose (mh (y_lM MK (fun e => e + x) (fun t => t - x) p 24)) = vS (M 2) p x := by
    refine z_loose_x fun k hk => ?_
    show decide (0 < (y_lM MK (fun e => e + x) (fun t => t - x) p 24) 57 k) = decide (z_lay (fun e => e + x) (fun t => t - x) (M 2) p 24 k ≠ -1)
    rw [v57, decide_eq_decide]
    have a := le k hk
    have b : -1 ≤ z_lay (fun e => e + x) (fun t => t - x) (M 2) p 24 k ∧ z_lay (fun e => e + x) (fun t => t - x) (M 2) p 24 k < 24 := rg k hk
    have a' : y_lay (fun e => e + x) (fun t => t - x) (M 57) p 24 k = z_lay (fun e => e + x) (fun t => t - x) (M 2) p 24 k + 1 := a
    omega
  rw [e] at m
  exact m
theorem op_bestSlide {x1 x2 : Int} (hI : cI M) (h1 : pR x1) (h2 : pR x2) : OP X M 26 171 [.inl x1, .inl x2, fx_u, fx_u, fx_u, fx_u, fx_u, fx_u] [.inl x1, .inl x2, fx_u, fx_u, fx_u, fx_u, fx_u] := by
  obtain ⟨S1, S2, hA, hO, hH, hi, hi2, hz, hz2⟩ := sD_of hI.1
  by_cases hp : 0 ≤ x1 ∧ x1 < 6
  · obtain ⟨p, rfl⟩ := nat_of hp.1
    have hp6 : p < 6 := by omega
    have c00 : ∀ z M', Ev X 26 5 [fx_f 0, .inl (p : Int), .inl x2, fx_u, fx_u, fx_u, fx_u, fx_u, fx_u] [] M (some (.inl z)) M' → Ev X 26 0 [fx_f 0, .inl (p : Int), .inl x2, fx_u, fx_u, fx_u, fx_u, fx_u, fx_u] [] M (some (.inl z)) M' := fun z M' k => r26_0 (ev_isPanel_y hp) (r26_2T (by omega) (by omega) k)
    have m00 : ∀ (M1 : fx_M) z M', Ev X 171 5 [fx_f 56, .inl (p : Int), .inl x2, fx_u, fx_u, fx_u, fx_u, fx_u] [] M1 (some (.inl z)) M' → Ev X 171 0 [fx_f 56, .inl (p : Int), .inl x2, fx_u, fx_u, fx_u, fx_u, fx_u] [] M1 (some (.inl z)) M' := fun M1 z M' k => r171_0 (evm_isPanel_y hp) (r171_2T (by omega) (by omega) k)
    by_cases hx : 0 ≤ x2 ∧ x2 ≤ 1
    · obtain ⟨V, hV⟩ : ∃ V, V = vS (M 2) p := ⟨_, rfl⟩
      obtain ⟨Q, hQ⟩ : ∃ Q, Q = z_can (ph M 1) p := ⟨_, rfl⟩
      obtain ⟨w, hw⟩ : ∃ w, w = z_loose (ph M 1) := ⟨_, rfl⟩
      have w60 : w ≤ 60 := by rw [hw]; exact z_loose_b _
      have Vb : ∀ x, V x ≤ 60 := fun x => by rw [hV]; exact z_loose_b _
      -- one slide of the class
      have one : ∀ (k : Nat) (far side : Int) (Mc : fx_M) (v7 v8 : fx_V), k < 22 → (side = -1 ∨ side = 1) → (1 ≤ far ∧ far < 12) → side * far = cS k → frC Mc M → ∃ (Mc' : fx_M) (w7 w8 : fx_V), frC Mc' M ∧ ∀ r M', Ev X 26 25 [fx_f 0, .inl (p : Int), .inl x2, .inl (bs Q V w (k + 1)).1, .inl (bs Q V w (k + 1)).2, .inl far, .inl (side + 2), w7, w8] [] Mc' r M' → Ev X 26 25 [fx_f 0, .inl (p : Int), .inl x2, .inl (bs Q V w k).1, .inl (bs Q V w k).2, .inl far, .inl side, v7, v8] [] Mc r M' := by
        intro k far side Mc v7 v8 hk hs hf he f
        have b := bs_b (Q := Q) (V := V) w60 k (by omega)
        have cb := cS_b hk
        have vb := Vb (cS k)
        have Sc : pS Mc 1 := pS_f S1 (f 2 (by omega)) (f 3 (by omega))
        have pc : ph Mc 1 = ph M 1 := by unfold ph; rw [f (1 + 1) (by omega)]
        have can := ev_canShift (X := X) (x := cS k) Sc hp6 cb
        rw [pc, ← hQ] at can
        by_cases hc : Q (cS k) = true
        · rw [if_pos hc] at can
          obtain ⟨Mc', k1, k2⟩ := ev_ifS (X := X) (p := p) (x := cS k) hI.1 f hp6 cb (by rw [← hQ]; exact hc)
          rw [← hV] at k1
          by_cases hl : (V (cS k) : Int) < (bs Q V w k).2
          · refine ⟨Mc', .inl (cS k), .inl (V (cS k) : Int), k2, fun r M' q => ?_⟩
            rw [bs_1 ⟨hc, hl⟩] at q
            exact r26_25F (by omega) (by omega) (r26_28 (by rw [he]; exact can) (by rw [he]; exact r26_37F (by omega) (by omega) (r26_38 k1 (r26_42F (by omega) hl (r26_46 q)))))
          · refine ⟨Mc', .inl (cS k), .inl (V (cS k) : Int), k2, fun r M' q => ?_⟩
            rw [bs_2 (fun a => hl a.2)] at q
            exact r26_25F (by omega) (by omega) (r26_28 (by rw [he]; exact can) (by rw [he]; exact r26_37F (by omega) (by omega) (r26_38 k1 (r26_42T (by omega) (by omega) (r26_50 q)))))
        · rw [if_neg hc] at can
          refine ⟨Mc, .inl (cS k), v8, f, fun r M' q => ?_⟩
          rw [bs_2 (fun a => hc a.1)] at q
          exact r26_25F (by omega) (by omega) (r26_28 (by rw [he]; exact can) (by rw [he]; exact r26_37T (by omega) rfl (r26_50 q)))
      have outer := Ev.loopX (X := X) (j := 26) (i := 20) 11 (fun c L M1 => frC M1 M ∧ ∃ v6 v7 v8, L = [fx_f 0, .inl (p : Int), .inl x2, .inl (bs Q V w (2 * c)).1, .inl (bs Q V w (2 * c)).2, .inl ((c : Int) + 1), v6, v7, v8]) (fun c hc L M1 hL => by
        obtain ⟨f, v6, v7, v8, rfl⟩ := hL
        obtain ⟨M2, a7, a8, f2, k2⟩ := one (2 * c) ((c : Int) + 1) (-1) M1 v7 v8 (by omega) (Or.inl rfl) (by omega) (by unfold cS; rw [if_pos (by omega), show 2 * c / 2 = c by omega]; omega) f
        obtain ⟨M3, b7, b8, f3, k3⟩ := one (2 * c + 1) ((c : Int) + 1) 1 M2 a7 a8 (by omega) (Or.inr rfl) (by omega) (by unfold cS; rw [if_neg (by omega), show (2 * c + 1) / 2 = c by omega]; omega) f2
        refine ⟨_, M3, ⟨f3, .inl (1 + 2), b7, b8, rfl⟩, fun r M' q => ?_⟩
        refine r26_20F (by omega) (by omega) (r26_23 (k2 r M' (k3 r M' (r26_25T (by omega) (by omega) (r26_52 ?_)))))
        have e : ((c + 1 : Nat) : Int) + 1 = (c : Int) + 1 + 1 := by push_cast; rfl
        rw [e, show 2 * (c + 1) = 2 * c + 1 + 1 by omega] at q
        exact q) [fx_f 0, .inl (p : Int), .inl x2, .inl 0, .inl (w : Int), .inl 1, fx_u, fx_u, fx_u] M ⟨frC_r M, fx_u, fx_u, fx_u, rfl⟩
      obtain ⟨L1, MC, ⟨fC, u6, u7, u8, rfl⟩, kC⟩ := outer
      -- the reference
      have IM : sE MC 1 57 0 := sE_r hI.1 fC
      have c57 : MC 57 = M 57 := fC 57 (by omega)
      obtain ⟨MK, hMK⟩ : ∃ MK : fx_M, MK = fx_set MC 59 (z_cpy (MC 57) (MC 59) 150) := ⟨_, rfl⟩
      have K59 : ∀ k, k < 150 → MK 59 k = M 57 k := fun k hk => by rw [hMK, fx_sk, c57]; unfold z_cpy; rw [if_pos hk]
      have Ko : ∀ r, r ≠ 59 → MK r = MC r := fun r hr => by rw [hMK, fx_sn hr]
      have mod := Ev.loopX (X := X) (j := 171) (i := 21) 22 (fun c L M1 => ((∀ r, r ≠ 58 → M1 r = MK r) ∧ ∃ v6 v7, L = [fx_f 56, .inl (p : Int), .inl x2, .inl (bs Q V w c).1, .inl (bs Q V w c).2, .inl (c : Int), v6, v7])) (fun c hc L M1 hL => by
        obtain ⟨f, v6, v7, rfl⟩ := hL
        have e57 : M1 57 = M 57 := by rw [f 57 (by omega), Ko 57 (by omega), c57]
        have ed : fx_div (c : Int) 2 = ((c / 2 : Nat) : Int) := pb_div (d := 2) (by omega) (by omega) (by omega)
        have er : fx_rem (c : Int) 2 = ((c % 2 : Nat) : Int) := pb_rem (d := 2) (by omega) (by omega) (by omega)
        have b := bs_b (Q := Q) (V := V) w60 c (by omega)
        have cb := cS_b hc
        have vb := Vb (cS c)
        have T1 : mS M1 := mS_f S2 e57
        have can := evm_canSlide (X := X) (x := cS c) T1 hp6 cb
        rw [show mh M1 = mh M by unfold mh; rw [e57], ← z_can_x hA hp6, ← hQ] at can
        have pre : ∀ z, Ev X 126 0 [fx_f 56, .inl (p : Int), .inl (cS c), fx_u, fx_u] [] M1 (some (.inl z)) M1 → ∀ r M', Ev X 171 44 [fx_f 56, .inl (p : Int), .inl x2, .inl (bs Q V w c).1, .inl (bs Q V w c).2, .inl (c : Int), .inl (cS c), v7] [.inl z] M1 r M' → Ev X 171 21 [fx_f 56, .inl (p : Int), .inl x2, .inl (bs Q V w c).1, .inl (bs Q V w c).2, .inl (c : Int), v6, v7] [] M1 r M' := by
          intro z can r M' k
          refine r171_21F (by omega) (by omega) ?_
          by_cases hm : c % 2 = 0
          · have e : -1 - fx_div (c : Int) 2 = cS c := by rw [ed]; unfold cS; rw [if_pos hm]
            exact r171_24F (by rw [er]; omega) (by rw [er]; omega) (r171_28 (by rw [e]; exact can) (by rw [e]; exact k))
          · have e : 1 + fx_div (c : Int) 2 = cS c := by rw [ed]; unfold cS; rw [if_neg hm]
            exact r171_24T (by rw [er]; omega) (by rw [er]; omega) (r171_34 (by rw [e]; exact can) (by rw [e]; exact k))
        by_cases hq : Q (cS c) = true
        · rw [if_pos hq] at can
          obtain ⟨g1, g2⟩ := evm_ifS (X := X) (MK := M1) (p := p) (x := cS c) hI.1 e57 hp6 cb (by rw [← hQ]; exact hq)
          rw [← hV] at g2
          obtain ⟨ML, hML⟩ : ∃ ML : fx_M, ML = y_lM M1 (fun e => e + cS c) (fun t => t - cS c) p 24 := ⟨_, rfl⟩
          rw [← hML] at g1 g2
          obtain ⟨MB, hMB⟩ : ∃ MB : fx_M, MB = fx_set ML 57 (z_cpy (ML 59) (ML 57) 150) := ⟨_, rfl⟩
          have pb := evm_putBack (X := X) (M := ML)
          rw [← hMB] at pb
          have fB : ∀ r, r ≠ 58 → MB r = MK r := fun r hr => by
            by_cases h57 : r = 57
            · subst h57
              rw [hMB, fx_sk, Ko 57 (by omega), c57]
              refine z_cpy_self (fun k hk => ?_) (fun k hk => ?_)
              · rw [hML]; unfold y_lM
                rw [fx_sn (by omega), fx_sn (by omega), f 59 (by omega)]; exact K59 k hk
              · rw [hML]; unfold y_lM
                rw [fx_sk, y_lay_hi hp6 (by omega), e57]
            · rw [hMB, fx_sn h57, hML]; unfold y_lM
              rw [fx_sn h57, fx_sn hr, f r hr]
          by_cases hl : (V (cS c) : Int) < (bs Q V w c).2
          · refine ⟨_, MB, ⟨fB, .inl (cS c), .inl (V (cS c) : Int), rfl⟩, fun r M' k => pre 1 can r M' (r171_44F (by omega) (by omega) (r171_45 g1 (r171_51 g2 (r171_53F (by omega) hl (r171_57F (by omega) hl (r171_64 pb (r171_70 ?_)))))))⟩
            rw [bs_1 ⟨hq, hl⟩] at k
            exact k
          · refine ⟨_, MB, ⟨fB, .inl (cS c), .inl (V (cS c) : Int), rfl⟩, fun r M' k => pre 1 can r M' (r171_44F (by omega) (by omega) (r171_45 g1 (r171_51 g2 (r171_53T (by omega) (by omega) (r171_59T (by omega) (by omega) (r171_66 pb (r171_70 ?_)))))))⟩
            rw [bs_2 (fun a => hl a.2)] at k
            exact k
        · rw [if_neg hq] at can
          refine ⟨_, M1, ⟨f, .inl (cS c), v7, rfl⟩, fun r M' k => pre 0 can r M' (r171_44T (by omega) rfl (r171_70 ?_))⟩
          rw [bs_2 (fun a => hq a.1)] at k
          exact k) [fx_f 56, .inl (p : Int), .inl x2, .inl 0, .inl (w : Int), .inl 0, fx_u, fx_u] MK ⟨fun _ _ => rfl, fx_u, fx_u, rfl⟩
      obtain ⟨L2, M2, ⟨fM, w6, w7, rfl⟩, kM⟩ := mod
      have b := bs_b (Q := Q) (V := V) w60 22 (by omega)
      have lc := ev_looseEnds (X := X) S1
      rw [← hw] at lc
      have c0 : ∀ z M', Ev X 26 20 [fx_f 0, .inl (p : Int), .inl x2, .inl 0, .inl (w : Int), .inl 1, fx_u, fx_u, fx_u] [] M (some (.inl z)) M' → Ev X 26 0 [fx_f 0, .inl (p : Int), .inl x2, fx_u, fx_u, fx_u, fx_u, fx_u, fx_u] [] M (some (.inl z)) M' := by
        intro z M' k
        refine c00 z M' ?_
        have k' := r26_12 lc (r26_17 k)
        by_cases x0 : x2 = 0
        · exact r26_5T h2 x0 k'
        · exact r26_5F h2 x0 (r26_7T h2 (by omega) k')
      have ml := mloose (X := X) (sE_f IM (Ko 2 (by omega)) (Ko 3 (by omega)) (Ko 57 (by omega)))
      rw [show ph MK 1 = ph M 1 by unfold ph; rw [Ko (1 + 1) (by omega), fC (1 + 1) (by omega)], ← hw] at ml
      have kt := evm_keepTrial (X := X) (M := MC)
      rw [← hMK] at kt
      have m0 : ∀ z M', Ev X 171 21 [fx_f 56, .inl (p : Int), .inl x2, .inl 0, .inl (w : Int), .inl 0, fx_u, fx_u] [] MK (some (.inl z)) M' → Ev X 171 0 [fx_f 56, .inl (p : Int), .inl x2, fx_u, fx_u, fx_u, fx_u, fx_u] [] MC (some (.inl z)) M' := fun z M' k => m00 MC z M' (r171_5 (evm_in_y (by omega) h2 (by decide) (by decide)) (r171_9T (by omega) (by omega) (r171_12 kt (r171_14 ml (r171_18 k)))))
      have fr : frM M2 MC := ⟨fun r hr => by rw [fM r (by omega), Ko r (by omega)], fun k _ _ _ _ => by rw [fM 56 (by omega), Ko 56 (by omega)]⟩
      by_cases x0 : x2 = 0
      · exact OP_read (z := 20 + (bs Q V w 22).1) hI (c0 _ _ (kC _ _ (r26_20T (by omega) (by omega) (r26_54F h2 x0 r26_56)))) fC (m0 _ _ (kM _ _ (r171_21T (by omega) (by omega) (r171_72F h2 x0 r171_74)))) fr (by constructor <;> omega)
      · exact OP_read (z := (bs Q V w 22).2) hI (c0 _ _ (kC _ _ (r26_20T (by omega) (by omega) (r26_54T h2 x0 r26_60)))) fC (m0 _ _ (kM _ _ (r171_21T (by omega) (by omega) (r171_72T h2 x0 r171_78)))) fr (by constructor <;> omega)
    · exact OP_read (z := -2) hI (c00 _ _ (r26_5F h2 (by omega) (r26_7F h2 (by omega) r26_10))) (frC_r M) (m00 _ _ _ (r171_5 (evm_in_n (by omega) h2 (by decide) (by decide)) (r171_9F (by omega) rfl r171_10))) (frM_r M) (by decide)
  · exact OP_read hI (r26_0 (ev_isPanel_n h1 (by omega)) (r26_2F (by omega) rfl r26_3)) (frC_r M) (r171_0 (evm_isPanel_n h1 (by omega)) (r171_2F (by omega) rfl r171_3)) (frM_r M) (by decide)
end BS

/-! the exchange and the slide with the fewest loose ends -/
def vX (O : Nat → Int) (p q : Nat) : Nat := z_loose (fun k => decide (z_swp O p q 24 k ≠ -1))
def bx (V : Nat → Nat → Nat) (w : Int) : Nat → Int × Int
  | 0 => (0, w)
  | k + 1 => if k / 6 < k % 6 ∧ (V (k / 6) (k % 6) : Int) < (bx V w k).2 then (10 * ((k / 6 : Nat) : Int) + ((k % 6 : Nat) : Int), (V (k / 6) (k % 6) : Int)) else bx V w k
theorem bx_skip {V : Nat → Nat → Nat} {w : Int} {c d : Nat} (hc : c < 6) (hd : d ≤ c + 1) : bx V w (6 * c + d) = bx V w (6 * c) := by
  induction d with
  | zero => rfl
  | succ d ih =>
    rw [← Nat.add_assoc, bx, if_neg (by omega), ih (by omega)]
theorem bx_b {V : Nat → Nat → Nat} {w : Int} (hw : 0 ≤ w ∧ w ≤ 1000) (k : Nat) (hk : k ≤ 36) : (0 ≤ (bx V w k).2 ∧ (bx V w k).2 ≤ 1000) ∧ (0 ≤ (bx V w k).1 ∧ (bx V w k).1 ≤ 100) := by
  induction k with
  | zero => exact ⟨hw, by show (0 : Int) ≤ 0 ∧ (0 : Int) ≤ 100; omega⟩
  | succ k ih =>
    have := ih (by omega)
    rw [bx]
    split
    next h => exact ⟨by show 0 ≤ (V (k / 6) (k % 6) : Int) ∧ (V (k / 6) (k % 6) : Int) ≤ 1000; omega, by show 0 ≤ 10 * ((k / 6 : Nat) : Int) + ((k % 6 : Nat) : Int) ∧ 10 * ((k / 6 : Nat) : Int) + ((k % 6 : Nat) : Int) ≤ 100; omega⟩
    next => exact this
theorem z_swp_x {O O' : Nat → Int} {p q : Nat} (hp : p < 6) (hq : q < 6) (h : ∀ k, k < 144 → O k = O' k) : ∀ k, k < 144 → z_swp O p q 24 k = z_swp O' p q 24 k := by
  intro k hk
  unfold z_swp
  split
  · exact h _ (by omega)
  · split
    · exact h _ (by omega)
    · exact h k hk
theorem bx_1 {V : Nat → Nat → Nat} {w : Int} {k : Nat} (h : k / 6 < k % 6 ∧ (V (k / 6) (k % 6) : Int) < (bx V w k).2) : bx V w (k + 1) = (10 * ((k / 6 : Nat) : Int) + ((k % 6 : Nat) : Int), (V (k / 6) (k % 6) : Int)) := by rw [bx, if_pos h]
theorem bx_2 {V : Nat → Nat → Nat} {w : Int} {k : Nat} (h : ¬ (k / 6 < k % 6 ∧ (V (k / 6) (k % 6) : Int) < (bx V w k).2)) : bx V w (k + 1) = bx V w k := by rw [bx, if_neg h]
theorem vX_b (O : Nat → Int) (p q : Nat) : vX O p q ≤ 60 := z_loose_b _
def cS (k : Nat) : Int := if k % 2 = 0 then -1 - ((k / 2 : Nat) : Int) else 1 + ((k / 2 : Nat) : Int)
def vS (O : Nat → Int) (p : Nat) (x : Int) : Nat := z_loose (fun k => decide (z_lay (fun e => e + x) (fun t => t - x) O p 24 k ≠ -1))
def bs (Q : Int → Bool) (V : Int → Nat) (w : Nat) : Nat → Int × Int
  | 0 => (0, (w : Int))
  | k + 1 => if Q (cS k) = true ∧ (V (cS k) : Int) < (bs Q V w k).2 then (cS k, (V (cS k) : Int)) else bs Q V w k
theorem cS_b {k : Nat} (h : k < 22) : -12 < cS k ∧ cS k < 12 := by
  unfold cS
  split <;> omega
theorem bs_1 {Q : Int → Bool} {V : Int → Nat} {w k : Nat} (h : Q (cS k) = true ∧ (V (cS k) : Int) < (bs Q V w k).2) : bs Q V w (k + 1) = (cS k, (V (cS k) : Int)) := by rw [bs, if_pos h]
theorem bs_2 {Q : Int → Bool} {V : Int → Nat} {w k : Nat} (h : ¬ (Q (cS k) = true ∧ (V (cS k) : Int) < (bs Q V w k).2)) : bs Q V w (k + 1) = bs Q V w k := by rw [bs, if_neg h]
theorem bs_b {Q : Int → Bool} {V : Int → Nat} {w : Nat} (hw : w ≤ 60) (k : Nat) (hk : k ≤ 22) : (0 ≤ (bs Q V w k).2 ∧ (bs Q V w k).2 ≤ 60) ∧ (-12 ≤ (bs Q V w k).1 ∧ (bs Q V w k).1 ≤ 12) := by
  induction k with
  | zero => exact ⟨by show (0 : Int) ≤ w ∧ (w : Int) ≤ 60; omega, by show (-12 : Int) ≤ 0 ∧ (0 : Int) ≤ 12; omega⟩
  | succ k ih =>
    have := ih (by omega)
    have c := cS_b (k := k) (by omega)
    by_cases h : Q (cS k) = true ∧ (V (cS k) : Int) < (bs Q V w k).2
    · rw [bs_1 h]
      exact ⟨by show 0 ≤ (V (cS k) : Int) ∧ (V (cS k) : Int) ≤ 60; omega, by show -12 ≤ cS k ∧ cS k ≤ 12; omega⟩
    · rw [bs_2 h]; exact this
section BX
variable {X : fx_Sc} {M M' : fx_M}
theorem ev_ifX {Mc : fx_M} {p q : Nat} (hI : sC M 1) (f : frC Mc M) (hp : p < 6) (hq : q < 6) (hpq : p ≠ q) : ∃ Mc' : fx_M, Ev X 29 0 [fx_f 0, .inl (p : Int), .inl (q : Int)] [] Mc (some (.inl (vX (M 2) p q : Int))) Mc' ∧ frC Mc' M := by
  obtain ⟨S1, hi⟩ := id hI
  have e2 : Mc 2 = M 2 := f 2 (by omega)
  obtain ⟨t1, t2, t3, t4, t5⟩ := try_D (M := Mc) (pS_f S1 e2 (f 3 (by omega))) (by rw [e2]; exact hi)
  obtain ⟨Mc', hMc⟩ : ∃ Mc' : fx_M, Mc' = fx_set (fx_set (y_tr Mc) 6 (z_swp (y_tr Mc 6) p q 24)) 7 (z_sw6 (y_tr Mc 7) p q) := ⟨_, rfl⟩
  have sw := ev_swap (X := X) t1 hp hq hpq
  have sw' : Ev X 94 0 [fx_f 5, .inl (p : Int), .inl (q : Int), fx_u, fx_u] [] (y_tr Mc) none Mc' := by rw [hMc]; exact sw
  have c6 : Mc' 6 = z_swp (y_tr Mc 6) p q 24 := by rw [hMc, fx_sn (by omega), fx_sk]
  have c7 : Mc' 7 = z_sw6 (y_tr Mc 7) p q := by rw [hMc, fx_sk]
  have P : pS Mc' 5 := by
    refine ⟨isS5, fun k hk => ?_, fun i hi' => ?_⟩
    · show -1 ≤ Mc' 6 k ∧ Mc' 6 k < 24
      rw [c6]; exact z_swp_rg hp hq t1.2.1 k hk
    · show 0 ≤ Mc' 7 i ∧ Mc' 7 i < 6
      have b3 : ∀ i, i < 6 → 0 ≤ y_tr Mc 7 i ∧ y_tr Mc 7 i < 6 := t1.2.2
      rw [c7]
      show 0 ≤ (if i = q then y_tr Mc 7 p else if i = p then y_tr Mc 7 q else y_tr Mc 7 i) ∧ (if i = q then y_tr Mc 7 p else if i = p then y_tr Mc 7 q else y_tr Mc 7 i) < 6
      split
      · exact b3 p hp
      · split
        · exact b3 q hq
        · exact b3 i hi'
  have ez : z_loose (ph Mc' 5) = vX (M 2) p q := by
    refine z_loose_x fun k hk => ?_
    show decide (Mc' 6 k ≠ -1) = decide (z_swp (M 2) p q 24 k ≠ -1)
    rw [c6, z_swp_x hp hq (fun k hk => by rw [t3 k hk, e2]) k hk]
  have le := ev_looseEnds (X := X) P
  rw [ez] at le
  refine ⟨Mc', r29_0 ev_try (r29_5 sw' (r29_10 le r29_13)), fun r hr => ?_⟩
  rw [hMc, fx_sn (by omega), fx_sn (by omega), t5 r (by omega) (by omega), f r hr]
theorem ev_ifS {Mc : fx_M} {p : Nat} {x : Int} (hI : sC M 1) (f : frC Mc M) (hp : p < 6) (hx : -12 < x ∧ x < 12) (hc : z_can (ph M 1) p x = true) : ∃ Mc' : fx_M, Ev X 27 0 [fx_f 0, .inl (p : Int), .inl x] [] Mc (some (.inl (vS (M 2) p x : Int))) Mc' ∧ frC Mc' M := by
  obtain ⟨S1, hi⟩ := id hI
  have e2 : Mc 2 = M 2 := f 2 (by omega)
  obtain ⟨t1, t2, t3, t4, t5⟩ := try_D (M := Mc) (pS_f S1 e2 (f 3 (by omega))) (by rw [e2]; exact hi)
  have hA5 : zA (ph (y_tr Mc) 5) (ph M 1) := fun k hk => by
    show decide (y_tr Mc 6 k ≠ -1) = decide (M 2 k ≠ -1)
    rw [t3 k hk, e2]
  have hc5 : z_can (ph (y_tr Mc) 5) p x = true := by rw [z_can_x hA5 hp]; exact hc
  obtain ⟨Mc', hMc⟩ : ∃ Mc' : fx_M, Mc' = z_lM (y_tr Mc) 5 (fun e => e + x) (fun t => t - x) p 24 := ⟨_, rfl⟩
  have sh := ev_shift (X := X) t1 t2 hp hx hc5
  rw [← hMc] at sh
  have hn := sh_hn (O := y_tr Mc 6) hc5 (fun k _ h => decide_eq_true h) hp
  have c6 : Mc' 6 = z_lay (fun e => e + x) (fun t => t - x) (y_tr Mc 6) p 24 := by rw [hMc]; unfold z_lM; rw [show (6 : Nat) = 5 + 1 from rfl, fx_sk]
  have c7 : Mc' 7 = y_tr Mc 7 := by rw [hMc]; unfold z_lM; rw [fx_sn (by omega), fx_sn (by omega)]
  have P : pS Mc' 5 := ⟨isS5, fun k hk => by show -1 ≤ Mc' 6 k ∧ Mc' 6 k < 24; rw [c6]; exact z_lay_rg t1.2.1 t2 hp hn k hk, fun q hq => by show 0 ≤ Mc' 7 q ∧ Mc' 7 q < 6; rw [c7]; exact t1.2.2 q hq⟩
  have ez : z_loose (ph Mc' 5) = vS (M 2) p x := by
    refine z_loose_x fun k hk => ?_
    show decide (Mc' 6 k ≠ -1) = decide (z_lay (fun e => e + x) (fun t => t - x) (M 2) p 24 k ≠ -1)
    rw [c6, z_lay_x hp (fun k hk => by rw [t3 k hk, e2]) k hk]
  have le := ev_looseEnds (X := X) P
  rw [ez] at le
  refine ⟨Mc', r27_0 ev_try (r27_5 sh (r27_10 le r27_13)), fun r hr => ?_⟩
  rw [hMc]
  unfold z_lM
  rw [fx_sn (by omega), fx_sn (by omega), t5 r (by omega) (by omega), f r hr]
theorem ask_bestX {x1 : Int} (h : sC M 1) (hx : 0 ≤ x1 ∧ x1 ≤ 1) : ∃ MC, Ev X 28 0 [fx_f 0, .inl x1, fx_u, fx_u, fx_u, fx_u, fx_u] [] M (some (.inl (if x1 = 0 then (bx (vX (M 2)) 145 36).1 else (bx (vX (M 2)) 145 36).2))) MC ∧ frC MC M := by
    have h1 : pR x1 := by constructor <;> omega
    obtain ⟨V, hV⟩ : ∃ V, V = vX (M 2) := ⟨_, rfl⟩
    have Vb : ∀ p q, V p q ≤ 60 := fun p q => by rw [hV]; exact vX_b _ p q
    rw [← hV]
    -- the class, for the pairs of one lesser panel
    have inner : ∀ c, c < 6 → ∀ (Mc : fx_M) (v6 : fx_V), frC Mc M → ∃ (Mc' : fx_M) (w6 : fx_V), frC Mc' M ∧ ∀ r M', Ev X 28 20 [fx_f 0, .inl x1, .inl (bx V 145 (6 * (c + 1))).1, .inl (bx V 145 (6 * (c + 1))).2, .inl (c : Int), .inl ((6 : Nat) : Int), w6] [] Mc' r M' → Ev X 28 20 [fx_f 0, .inl x1, .inl (bx V 145 (6 * c)).1, .inl (bx V 145 (6 * c)).2, .inl (c : Int), .inl ((c + 1 : Nat) : Int), v6] [] Mc r M' := by
      intro c hc Mc v6 f
      have L := Ev.loopX (X := X) (j := 28) (i := 20) (6 - (c + 1)) (fun d L M1 => frC M1 M ∧ ∃ w6, L = [fx_f 0, .inl x1, .inl (bx V 145 (6 * c + (c + 1 + d))).1, .inl (bx V 145 (6 * c + (c + 1 + d))).2, .inl (c : Int), .inl ((c + 1 + d : Nat) : Int), w6]) (fun d hd L M1 hL => by
        obtain ⟨g, w6, rfl⟩ := hL
        obtain ⟨M2, k1, k2⟩ := ev_ifX (X := X) (p := c) (q := c + 1 + d) h g hc (by omega) (by omega)
        rw [← hV] at k1
        have b := bx_b (V := V) (w := 145) (by omega) (6 * c + (c + 1 + d)) (by omega)
        have vb := Vb c (c + 1 + d)
        have kd : (6 * c + (c + 1 + d)) / 6 = c := by omega
        have km : (6 * c + (c + 1 + d)) % 6 = c + 1 + d := by omega
        have e1 : c + 1 + (d + 1) = c + 1 + d + 1 := by omega
        by_cases hl : (V c (c + 1 + d) : Int) < (bx V 145 (6 * c + (c + 1 + d))).2
        · have st := bx_1 (V := V) (w := 145) (k := 6 * c + (c + 1 + d)) (by rw [kd, km]; exact ⟨by omega, hl⟩)
          rw [kd, km] at st
          refine ⟨_, M2, ⟨k2, .inl (V c (c + 1 + d) : Int), rfl⟩, fun r M' k => ?_⟩
          rw [e1, ← Nat.add_assoc, st] at k
          exact r28_20F (by omega) (by omega) (r28_23 k1 (r28_27F (by omega) hl (r28_31 k)))
        · have st := bx_2 (V := V) (w := 145) (k := 6 * c + (c + 1 + d)) (by rw [kd, km]; exact fun q => hl q.2)
          refine ⟨_, M2, ⟨k2, .inl (V c (c + 1 + d) : Int), rfl⟩, fun r M' k => ?_⟩
          rw [e1, ← Nat.add_assoc, st] at k
          exact r28_20F (by omega) (by omega) (r28_23 k1 (r28_27T (by omega) (by omega) (r28_39 k)))) _ Mc ⟨f, v6, rfl⟩
      obtain ⟨L1, M1, ⟨f1, w6, rfl⟩, k⟩ := L
      refine ⟨M1, w6, f1, fun r M' q => ?_⟩
      have z := k r M' (by rw [show c + 1 + (6 - (c + 1)) = 6 by omega, show 6 * c + 6 = 6 * (c + 1) by omega]; exact q)
      rw [Nat.add_zero, bx_skip hc (Nat.le_refl _)] at z
      exact z
    have outer := Ev.loopX (X := X) (j := 28) (i := 13) 6 (fun c L M1 => frC M1 M ∧ ∃ v5 v6, L = [fx_f 0, .inl x1, .inl (bx V 145 (6 * c)).1, .inl (bx V 145 (6 * c)).2, .inl (c : Int), v5, v6]) (fun c hc L M1 hL => by
      obtain ⟨f, v5, v6, rfl⟩ := hL
      obtain ⟨M2, w6, f2, k⟩ := inner c hc M1 v6 f
      refine ⟨_, M2, ⟨f2, .inl ((6 : Nat) : Int), w6, rfl⟩, fun r M' q => ?_⟩
      exact r28_13F (by omega) (by omega) (r28_16 (k r M' (r28_20T (by omega) (by omega) (r28_41 q))))) [fx_f 0, .inl x1, .inl 0, .inl 145, .inl 0, fx_u, fx_u] M ⟨frC_r M, fx_u, fx_u, rfl⟩
    obtain ⟨L1, MC, ⟨fC, v5, v6, rfl⟩, kC⟩ := outer
    have c0 : ∀ z M', Ev X 28 13 [fx_f 0, .inl x1, .inl 0, .inl 145, .inl 0, fx_u, fx_u] [] M (some (.inl z)) M' → Ev X 28 0 [fx_f 0, .inl x1, fx_u, fx_u, fx_u, fx_u, fx_u] [] M (some (.inl z)) M' := by
      intro z M' k
      by_cases x0 : x1 = 0
      · exact r28_0T h1 x0 (r28_7 k)
      · exact r28_0F h1 x0 (r28_2T h1 (by omega) (r28_7 k))
    rw [show 6 * 6 = 36 from rfl] at kC
    refine ⟨MC, c0 _ _ (kC _ _ (r28_13T (by omega) (by omega) ?_)), fC⟩
    by_cases x0 : x1 = 0
    · rw [if_pos x0]
      exact r28_43F h1 x0 r28_45
    · rw [if_neg x0]
      exact r28_43T h1 x0 r28_47
theorem ask_bestS {p : Nat} {x2 : Int} (h : sC M 1) (hp6 : p < 6) (hx : 0 ≤ x2 ∧ x2 ≤ 1) : ∃ MC, Ev X 26 0 [fx_f 0, .inl (p : Int), .inl x2, fx_u, fx_u, fx_u, fx_u, fx_u, fx_u] [] M (some (.inl (if x2 = 0 then 20 + (bs (z_can (ph M 1) p) (vS (M 2) p) (z_loose (ph M 1)) 22).1 else (bs (z_can (ph M 1) p) (vS (M 2) p) (z_loose (ph M 1)) 22).2))) MC ∧ frC MC M := by
    have h2 : pR x2 := by constructor <;> omega
    have S1 := h.1
    have hp : 0 ≤ (p : Int) ∧ (p : Int) < 6 := by omega
    have c00 : ∀ z M', Ev X 26 5 [fx_f 0, .inl (p : Int), .inl x2, fx_u, fx_u, fx_u, fx_u, fx_u, fx_u] [] M (some (.inl z)) M' → Ev X 26 0 [fx_f 0, .inl (p : Int), .inl x2, fx_u, fx_u, fx_u, fx_u, fx_u, fx_u] [] M (some (.inl z)) M' := fun z M' k => r26_0 (ev_isPanel_y hp) (r26_2T (by omega) (by omega) k)
    obtain ⟨V, hV⟩ : ∃ V, V = vS (M 2) p := ⟨_, rfl⟩
    obtain ⟨Q, hQ⟩ : ∃ Q, Q = z_can (ph M 1) p := ⟨_, rfl⟩
    obtain ⟨w, hw⟩ : ∃ w, w = z_loose (ph M 1) := ⟨_, rfl⟩
    have w60 : w ≤ 60 := by rw [hw]; exact z_loose_b _
    have Vb : ∀ x, V x ≤ 60 := fun x => by rw [hV]; exact z_loose_b _
    rw [← hV, ← hQ, ← hw]
    -- one slide of the class
    have one : ∀ (k : Nat) (far side : Int) (Mc : fx_M) (v7 v8 : fx_V), k < 22 → (side = -1 ∨ side = 1) → (1 ≤ far ∧ far < 12) → side * far = cS k → frC Mc M → ∃ (Mc' : fx_M) (w7 w8 : fx_V), frC Mc' M ∧ ∀ r M', Ev X 26 25 [fx_f 0, .inl (p : Int), .inl x2, .inl (bs Q V w (k + 1)).1, .inl (bs Q V w (k + 1)).2, .inl far, .inl (side + 2), w7, w8] [] Mc' r M' → Ev X 26 25 [fx_f 0, .inl (p : Int), .inl x2, .inl (bs Q V w k).1, .inl (bs Q V w k).2, .inl far, .inl side, v7, v8] [] Mc r M' := by
      intro k far side Mc v7 v8 hk hs hf he f
      have b := bs_b (Q := Q) (V := V) w60 k (by omega)
      have cb := cS_b hk
      have vb := Vb (cS k)
      have Sc : pS Mc 1 := pS_f S1 (f 2 (by omega)) (f 3 (by omega))
      have pc : ph Mc 1 = ph M 1 := by unfold ph; rw [f (1 + 1) (by omega)]
      have can := ev_canShift (X := X) (x := cS k) Sc hp6 cb
      rw [pc, ← hQ] at can
      by_cases hc : Q (cS k) = true
      · rw [if_pos hc] at can
        obtain ⟨Mc', k1, k2⟩ := ev_ifS (X := X) (p := p) (x := cS k) h f hp6 cb (by rw [← hQ]; exact hc)
        rw [← hV] at k1
        by_cases hl : (V (cS k) : Int) < (bs Q V w k).2
        · refine ⟨Mc', .inl (cS k), .inl (V (cS k) : Int), k2, fun r M' q => ?_⟩
          rw [bs_1 ⟨hc, hl⟩] at q
          exact r26_25F (by omega) (by omega) (r26_28 (by rw [he]; exact can) (by rw [he]; exact r26_37F (by omega) (by omega) (r26_38 k1 (r26_42F (by omega) hl (r26_46 q)))))
        · refine ⟨Mc', .inl (cS k), .inl (V (cS k) : Int), k2, fun r M' q => ?_⟩
          rw [bs_2 (fun a => hl a.2)] at q
          exact r26_25F (by omega) (by omega) (r26_28 (by rw [he]; exact can) (by rw [he]; exact r26_37F (by omega) (by omega) (r26_38 k1 (r26_42T (by omega) (by omega) (r26_50 q)))))
      · rw [if_neg hc] at can
        refine ⟨Mc, .inl (cS k), v8, f, fun r M' q => ?_⟩
        rw [bs_2 (fun a => hc a.1)] at q
        exact r26_25F (by omega) (by omega) (r26_28 (by rw [he]; exact can) (by rw [he]; exact r26_37T (by omega) rfl (r26_50 q)))
    have outer := Ev.loopX (X := X) (j := 26) (i := 20) 11 (fun c L M1 => frC M1 M ∧ ∃ v6 v7 v8, L = [fx_f 0, .inl (p : Int), .inl x2, .inl (bs Q V w (2 * c)).1, .inl (bs Q V w (2 * c)).2, .inl ((c : Int) + 1), v6, v7, v8]) (fun c hc L M1 hL => by
      obtain ⟨f, v6, v7, v8, rfl⟩ := hL
      obtain ⟨M2, a7, a8, f2, k2⟩ := one (2 * c) ((c : Int) + 1) (-1) M1 v7 v8 (by omega) (Or.inl rfl) (by omega) (by unfold cS; rw [if_pos (by omega), show 2 * c / 2 = c by omega]; omega) f
      obtain ⟨M3, b7, b8, f3, k3⟩ := one (2 * c + 1) ((c : Int) + 1) 1 M2 a7 a8 (by omega) (Or.inr rfl) (by omega) (by unfold cS; rw [if_neg (by omega), show (2 * c + 1) / 2 = c by omega]; omega) f2
      refine ⟨_, M3, ⟨f3, .inl (1 + 2), b7, b8, rfl⟩, fun r M' q => ?_⟩
      refine r26_20F (by omega) (by omega) (r26_23 (k2 r M' (k3 r M' (r26_25T (by omega) (by omega) (r26_52 ?_)))))
      have e : ((c + 1 : Nat) : Int) + 1 = (c : Int) + 1 + 1 := by push_cast; rfl
      rw [e, show 2 * (c + 1) = 2 * c + 1 + 1 by omega] at q
      exact q) [fx_f 0, .inl (p : Int), .inl x2, .inl 0, .inl (w : Int), .inl 1, fx_u, fx_u, fx_u] M ⟨frC_r M, fx_u, fx_u, fx_u, rfl⟩
    obtain ⟨L1, MC, ⟨fC, u6, u7, u8, rfl⟩, kC⟩ := outer
    have lc := ev_looseEnds (X := X) S1
    rw [← hw] at lc
    have c0 : ∀ z M', Ev X 26 20 [fx_f 0, .inl (p : Int), .inl x2, .inl 0, .inl (w : Int), .inl 1, fx_u, fx_u, fx_u] [] M (some (.inl z)) M' → Ev X 26 0 [fx_f 0, .inl (p : Int), .inl x2, fx_u, fx_u, fx_u, fx_u, fx_u, fx_u] [] M (some (.inl z)) M' := by
      intro z M' k
      refine c00 z M' ?_
      have k' := r26_12 lc (r26_17 k)
      by_cases x0 : x2 = 0
      · exact r26_5T h2 x0 k'
      · exact r26_5F h2 x0 (r26_7T h2 (by omega) k')
    refine ⟨MC, c0 _ _ (kC _ _ (r26_20T (by omega) (by omega) ?_)), fC⟩
    by_cases x0 : x2 = 0
    · rw [if_pos x0]
      exact r26_54F h2 x0 r26_56
    · rw [if_neg x0]
      exact r26_54T h2 x0 r26_60
end BX

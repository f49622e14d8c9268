/-! the exchange with the fewest loose ends -/
def vX (O : Nat → Int) (p q : Nat) : Nat := z_loose (fun k => decide (z_swp O p q 24 k ≠ -1))
def bx (V : Nat → Nat → Nat) (w : Int) : Nat → Int × Int
  | 0 => (0, w)
  | k + 1 => if k / 6 < k % 6 ∧ (V (k / 6) (k % 6) : Int) < (bx V w k).2 then (10 * ((k / 6 : Nat) : Int) + ((k % 6 : Nat) : Int), (V (k / 6) (k % 6) : Int)) else bx V w k
theorem bx_skip {V : Nat → Nat → Nat} {w : Int} {c d : Nat} (hc : c < 6) (hd : d ≤ c + 1) : bx V w (6 * c + d) = bx V w (6 * c) := by
  induction d with
  | zero => rfl
  | succ d ih =>
    rw [← Nat.add_assoc, bx, if_neg (by omega), ih (by omega)]
theorem bx_b {V : Nat → Nat → Nat} {w : Int} (hw : 0 ≤ w ∧ w ≤ 1000) (k : Nat) (hk : k ≤ 36) : (0 ≤ (bx V w k).2 ∧ (bx V w k).2 ≤ 1000) ∧ (0 ≤ (bx V w k).1 ∧ (bx V w k).1 ≤ 100) := by
  induction k with
  | zero => exact ⟨hw, by show (0 : Int) ≤ 0 ∧ (0 : Int) ≤ 100; omega⟩
  | succ k ih =>
    have := ih (by omega)
    rw [bx]
    split
    next h => exact ⟨by show 0 ≤ (V (k / 6) (k % 6) : Int) ∧ (V (k / 6) (k % 6) : Int) ≤ 1000; omega, by show 0 ≤ 10 * ((k / 6 : Nat) : Int) + ((k % 6 : Nat) : Int) ∧ 10 * ((k / 6 : Nat) : Int) + ((k % 6 : Nat) : Int) ≤ 100; omega⟩
    next => exact this
theorem bx_eq {V : Nat → Nat → Nat} (h : V 0 1 ≤ 60) (k : Nat) : bx V 145 (k + 2) = bx V 1000 (k + 2) := by
  induction k with
  | zero =>
    have a : ∀ w : Int, 60 < w → bx V w 2 = (1, (V 0 1 : Int)) := by
      intro w hw
      rw [bx, if_pos]
      · rfl
      · refine ⟨by omega, ?_⟩
        rw [bx, if_neg (by omega)]
        show (V 0 1 : Int) < w
        omega
    rw [a 145 (by omega), a 1000 (by omega)]
  | succ k ih =>
    obtain ⟨j, hj⟩ : ∃ j, j = k + 2 := ⟨_, rfl⟩
    rw [← hj] at ih
    rw [show k + 1 + 2 = j + 1 by omega, bx, bx, ih]
theorem y_swp_swp {s : Nat → Int} {p q : Nat} (hp : p < 6) (hq : q < 6) (hpq : p ≠ q) : y_swp (y_swp s p q) p q = s := by
  have v : ∀ (s : Nat → Int) k, y_swp s p q k = if k = 144 + q then s (144 + p) else if k = 144 + p then s (144 + q) else z_swp s p q 24 k := fun _ _ => rfl
  funext k
  rw [v]
  by_cases h1 : k = 144 + q
  · rw [if_pos h1, v, if_neg (by omega), if_pos rfl, h1]
  · rw [if_neg h1]
    by_cases h2 : k = 144 + p
    · rw [if_pos h2, v, if_pos rfl, h2]
    · rw [if_neg h2]
      by_cases c1 : 24 * p ≤ k ∧ k < 24 * p + 24
      · obtain ⟨j, rfl⟩ : ∃ j, k = 24 * p + j := ⟨k - 24 * p, by omega⟩
        rw [z_swp_v _ _ _ j (by omega), v, if_neg (by omega), if_neg (by omega), z_swp_w _ hpq j (by omega)]
      · by_cases c2 : 24 * q ≤ k ∧ k < 24 * q + 24
        · obtain ⟨j, rfl⟩ : ∃ j, k = 24 * q + j := ⟨k - 24 * q, by omega⟩
          rw [z_swp_w _ hpq j (by omega), v, if_neg (by omega), if_neg (by omega), z_swp_v _ _ _ j (by omega)]
        · unfold z_swp
          rw [if_neg c1, if_neg c2, v, if_neg h1, if_neg h2]
          unfold z_swp
          rw [if_neg c1, if_neg c2]
section BX
variable {X : fx_Sc} {M M' : fx_M}
theorem z_swp_x {O O' : Nat → Int} {p q : Nat} (hp : p < 6) (hq : q < 6) (h : ∀ k, k < 144 → O k = O' k) : ∀ k, k < 144 → z_swp O p q 24 k = z_swp O' p q 24 k := by
  intro k hk
  unfold z_swp
  split
  · exact h _ (by omega)
  · split
    · exact h _ (by omega)
    · exact h k hk
theorem ev_ifX {Mc : fx_M} {p q : Nat} (hI : sE M 1 57 0) (f : frC Mc M) (hp : p < 6) (hq : q < 6) (hpq : p ≠ q) : ∃ Mc' : fx_M, Ev X 29 0 [fx_f 0, .inl (p : Int), .inl (q : Int)] [] Mc (some (.inl (vX (M 2) p q : Int))) Mc' ∧ frC Mc' M := by
  obtain ⟨S1, S2, hA, hO, hH, hi, hi2, hz, hz2⟩ := sD_of hI
  have e2 : Mc 2 = M 2 := f 2 (by omega)
  obtain ⟨t1, t2, t3, t4, t5⟩ := try_D (M := Mc) (pS_f S1 e2 (f 3 (by omega))) (by rw [e2]; exact hi)
  obtain ⟨Mc', hMc⟩ : ∃ Mc' : fx_M, Mc' = fx_set (fx_set (y_tr Mc) 6 (z_swp (y_tr Mc 6) p q 24)) 7 (z_sw6 (y_tr Mc 7) p q) := ⟨_, rfl⟩
  have sw := ev_swap (X := X) t1 hp hq hpq
  have sw' : Ev X 94 0 [fx_f 5, .inl (p : Int), .inl (q : Int), fx_u, fx_u] [] (y_tr Mc) none Mc' := by rw [hMc]; exact sw
  have c6 : Mc' 6 = z_swp (y_tr Mc 6) p q 24 := by rw [hMc, fx_sn (by omega), fx_sk]
  have c7 : Mc' 7 = z_sw6 (y_tr Mc 7) p q := by rw [hMc, fx_sk]
  have P : pS Mc' 5 := by
    refine ⟨isS5, fun k hk => ?_, fun i hi' => ?_⟩
    · show -1 ≤ Mc' 6 k ∧ Mc' 6 k < 24
      rw [c6]; exact z_swp_rg hp hq t1.2.1 k hk
    · show 0 ≤ Mc' 7 i ∧ Mc' 7 i < 6
      have b3 : ∀ i, i < 6 → 0 ≤ y_tr Mc 7 i ∧ y_tr Mc 7 i < 6 := t1.2.2
      rw [c7]
      show 0 ≤ (if i = q then y_tr Mc 7 p else if i = p then y_tr Mc 7 q else y_tr Mc 7 i) ∧ (if i = q then y_tr Mc 7 p else if i = p then y_tr Mc 7 q else y_tr Mc 7 i) < 6
      split
      · exact b3 p hp
      · split
        · exact b3 q hq
        · exact b3 i hi'
  have ez : z_loose (ph Mc' 5) = vX (M 2) p q := by
    refine z_loose_x fun k hk => ?_
    show decide (Mc' 6 k ≠ -1) = decide (z_swp (M 2) p q 24 k ≠ -1)
    rw [c6, z_swp_x hp hq (fun k hk => by rw [t3 k hk, e2]) k hk]
  have le := ev_looseEnds (X := X) P
  rw [ez] at le
  refine ⟨Mc', r29_0 ev_try (r29_5 sw' (r29_10 le r29_13)), fun r hr => ?_⟩
  rw [hMc, fx_sn (by omega), fx_sn (by omega), t5 r (by omega) (by omega), f r hr]
theorem evm_ifX {p q : Nat} (hI : sE M 1 57 0) (hp : p < 6) (hq : q < 6) (hpq : p ≠ q) : Ev X 129 0 [fx_f 56] [] (fx_set M 57 (y_swp (M 57) p q)) (some (.inl (vX (M 2) p q : Int))) (fx_set M 57 (y_swp (M 57) p q)) := by
  obtain ⟨S1, S2, hA, hO, hH, hi, hi2, hz, hz2⟩ := sD_of hI
  have s1 : ∀ k, k < 144 → M 57 k = M 2 k + 1 := fun k hk => by have := hO k hk; unfold mO at this; omega
  have sv : ∀ k, k < 144 → y_swp (M 57) p q k = z_swp (M 2) p q 24 k + 1 := fun k hk => by
    unfold y_swp
    rw [fx_upn _ _ (by omega), fx_upn _ _ (by omega)]
    unfold z_swp
    split
    · exact s1 _ (by omega)
    · split
      · exact s1 _ (by omega)
      · exact s1 k hk
  have rg := z_swp_rg (O := M 2) hp hq S1.2.1
  have T : mS (fx_set M 57 (y_swp (M 57) p q)) := by
    refine ⟨fun k hk => ?_, fun i hi' => ?_⟩
    · rw [fx_sk, sv k hk]
      have := rg k hk
      omega
    · rw [fx_sk]
      show 0 ≤ (if 144 + i = 144 + q then M 57 (144 + p) else if 144 + i = 144 + p then M 57 (144 + q) else z_swp (M 57) p q 24 (144 + i)) ∧ (if 144 + i = 144 + q then M 57 (144 + p) else if 144 + i = 144 + p then M 57 (144 + q) else z_swp (M 57) p q 24 (144 + i)) < 6
      split
      · exact S2.2 p hp
      · split
        · exact S2.2 q hq
        · rw [z_swp_hi hp hq (by omega)]; exact S2.2 i hi'
  have m := evm_loose (X := X) T
  rw [z_loose_c] at m
  have e : z_loose (mh (fx_set M 57 (y_swp (M 57) p q))) = vX (M 2) p q := by
    refine z_loose_x fun k hk => ?_
    show decide (0 < (fx_set M 57 (y_swp (M 57) p q)) 57 k) = decide (z_swp (M 2) p q 24 k ≠ -1)
    rw [fx_sk, sv k hk, decide_eq_decide]
    have := rg k hk
    omega
  rw [e] at m
  exact m
theorem vX_b (O : Nat → Int) (p q : Nat) : vX O p q ≤ 60 := z_loose_b _
theorem bx_1 {V : Nat → Nat → Nat} {w : Int} {k : Nat} (h : k / 6 < k % 6 ∧ (V (k / 6) (k % 6) : Int) < (bx V w k).2) : bx V w (k + 1) = (10 * ((k / 6 : Nat) : Int) + ((k % 6 : Nat) : Int), (V (k / 6) (k % 6) : Int)) := by rw [bx, if_pos h]
theorem bx_2 {V : Nat → Nat → Nat} {w : Int} {k : Nat} (h : ¬ (k / 6 < k % 6 ∧ (V (k / 6) (k % 6) : Int) < (bx V w k).2)) : bx V w (k + 1) = bx V w k := by rw [bx, if_neg h]
theorem op_bestExchange {x1 : Int} (hI : cI M) (h1 : pR x1) : OP X M 28 174 [.inl x1, fx_u, fx_u, fx_u, fx_u, fx_u] [.inl x1, fx_u, fx_u, fx_u, fx_u] := by
  by_cases hx : 0 ≤ x1 ∧ x1 ≤ 1
  · obtain ⟨V, hV⟩ : ∃ V, V = vX (M 2) := ⟨_, rfl⟩
    have Vb : ∀ p q, V p q ≤ 60 := fun p q => by rw [hV]; exact vX_b _ p q
    -- the class, for the pairs of one lesser panel
    have inner : ∀ c, c < 6 → ∀ (Mc : fx_M) (v6 : fx_V), frC Mc M → ∃ (Mc' : fx_M) (w6 : fx_V), frC Mc' M ∧ ∀ r M', Ev X 28 20 [fx_f 0, .inl x1, .inl (bx V 145 (6 * (c + 1))).1, .inl (bx V 145 (6 * (c + 1))).2, .inl (c : Int), .inl ((6 : Nat) : Int), w6] [] Mc' r M' → Ev X 28 20 [fx_f 0, .inl x1, .inl (bx V 145 (6 * c)).1, .inl (bx V 145 (6 * c)).2, .inl (c : Int), .inl ((c + 1 : Nat) : Int), v6] [] Mc r M' := by
      intro c hc Mc v6 f
      have L := Ev.loopX (X := X) (j := 28) (i := 20) (6 - (c + 1)) (fun d L M1 => frC M1 M ∧ ∃ w6, L = [fx_f 0, .inl x1, .inl (bx V 145 (6 * c + (c + 1 + d))).1, .inl (bx V 145 (6 * c + (c + 1 + d))).2, .inl (c : Int), .inl ((c + 1 + d : Nat) : Int), w6]) (fun d hd L M1 hL => by
        obtain ⟨g, w6, rfl⟩ := hL
        obtain ⟨M2, k1, k2⟩ := ev_ifX (X := X) (p := c) (q := c + 1 + d) hI.1 g hc (by omega) (by omega)
        rw [← hV] at k1
        have b := bx_b (V := V) (w := 145) (by omega) (6 * c + (c + 1 + d)) (by omega)
        have vb := Vb c (c + 1 + d)
        have kd : (6 * c + (c + 1 + d)) / 6 = c := by omega
        have km : (6 * c + (c + 1 + d)) % 6 = c + 1 + d := by omega
        have e1 : c + 1 + (d + 1) = c + 1 + d + 1 := by omega
        by_cases hl : (V c (c + 1 + d) : Int) < (bx V 145 (6 * c + (c + 1 + d))).2
        · have st := bx_1 (V := V) (w := 145) (k := 6 * c + (c + 1 + d)) (by rw [kd, km]; exact ⟨by omega, hl⟩)
          rw [kd, km] at st
          refine ⟨_, M2, ⟨k2, .inl (V c (c + 1 + d) : Int), rfl⟩, fun r M' k => ?_⟩
          rw [e1, ← Nat.add_assoc, st] at k
          exact r28_20F (by omega) (by omega) (r28_23 k1 (r28_27F (by omega) hl (r28_31 k)))
        · have st := bx_2 (V := V) (w := 145) (k := 6 * c + (c + 1 + d)) (by rw [kd, km]; exact fun q => hl q.2)
          refine ⟨_, M2, ⟨k2, .inl (V c (c + 1 + d) : Int), rfl⟩, fun r M' k => ?_⟩
          rw [e1, ← Nat.add_assoc, st] at k
          exact r28_20F (by omega) (by omega) (r28_23 k1 (r28_27T (by omega) (by omega) (r28_39 k)))) _ Mc ⟨f, v6, rfl⟩
      obtain ⟨L1, M1, ⟨f1, w6, rfl⟩, k⟩ := L
      refine ⟨M1, w6, f1, fun r M' q => ?_⟩
      have z := k r M' (by rw [show c + 1 + (6 - (c + 1)) = 6 by omega, show 6 * c + 6 = 6 * (c + 1) by omega]; exact q)
      rw [Nat.add_zero, bx_skip hc (Nat.le_refl _)] at z
      exact z
    have outer := Ev.loopX (X := X) (j := 28) (i := 13) 6 (fun c L M1 => frC M1 M ∧ ∃ v5 v6, L = [fx_f 0, .inl x1, .inl (bx V 145 (6 * c)).1, .inl (bx V 145 (6 * c)).2, .inl (c : Int), v5, v6]) (fun c hc L M1 hL => by
      obtain ⟨f, v5, v6, rfl⟩ := hL
      obtain ⟨M2, w6, f2, k⟩ := inner c hc M1 v6 f
      refine ⟨_, M2, ⟨f2, .inl ((6 : Nat) : Int), w6, rfl⟩, fun r M' q => ?_⟩
      exact r28_13F (by omega) (by omega) (r28_16 (k r M' (r28_20T (by omega) (by omega) (r28_41 q))))) [fx_f 0, .inl x1, .inl 0, .inl 145, .inl 0, fx_u, fx_u] M ⟨frC_r M, fx_u, fx_u, rfl⟩
    obtain ⟨L1, MC, ⟨fC, v5, v6, rfl⟩, kC⟩ := outer
    -- the reference
    have IM : sE MC 1 57 0 := sE_r hI.1 fC
    have e2 : MC 2 = M 2 := fC 2 (by omega)
    have mod := Ev.loopX (X := X) (j := 174) (i := 13) 36 (fun c L M1 => M1 = MC ∧ ∃ v5, L = [fx_f 56, .inl x1, .inl (bx V 1000 c).1, .inl (bx V 1000 c).2, .inl (c : Int), v5]) (fun c hc L M1 hL => by
      obtain ⟨rfl, v5, rfl⟩ := hL
      have ed : fx_div (c : Int) 6 = ((c / 6 : Nat) : Int) := pb_div (d := 6) (by omega) (by omega) (by omega)
      have er : fx_rem (c : Int) 6 = ((c % 6 : Nat) : Int) := pb_rem (d := 6) (by omega) (by omega) (by omega)
      have b := bx_b (V := V) (w := 1000) (by omega) c (by omega)
      by_cases hl : c / 6 < c % 6
      · have vb := Vb (c / 6) (c % 6)
        have ex1 := evm_exchanges (X := X) (M := M1) (p := c / 6) (q := c % 6) (by omega) (by omega) (by omega)
        have ex2 := evm_exchanges (X := X) (M := fx_set M1 57 (y_swp (M1 57) (c / 6) (c % 6))) (p := c / 6) (q := c % 6) (by omega) (by omega) (by omega)
        rw [fx_ss, fx_sk, y_swp_swp (by omega) (by omega) (by omega), fx_self] at ex2
        have lo := evm_ifX (X := X) (p := c / 6) (q := c % 6) IM (by omega) (by omega) (by omega)
        rw [e2, ← hV] at lo
        have pre : ∀ r M', Ev X 174 42 [fx_f 56, .inl x1, .inl (bx V 1000 c).1, .inl (bx V 1000 c).2, .inl (c : Int), .inl (V (c / 6) (c % 6) : Int)] [] M1 r M' → Ev X 174 13 [fx_f 56, .inl x1, .inl (bx V 1000 c).1, .inl (bx V 1000 c).2, .inl (c : Int), v5] [] M1 r M' := by
          intro r M' k
          refine r174_13F (by omega) (by omega) (r174_16F (by rw [ed, er]; omega) (by rw [ed, er]; omega) (r174_23 (by rw [ed, er]; exact ex1) (r174_31 lo (r174_33 (by rw [ed, er]; exact ex2) k))))
        by_cases hw : (V (c / 6) (c % 6) : Int) < (bx V 1000 c).2
        · have st := bx_1 (V := V) (w := 1000) (k := c) ⟨hl, hw⟩
          refine ⟨_, M1, ⟨rfl, .inl (V (c / 6) (c % 6) : Int), rfl⟩, fun r M' k => pre r M' (r174_42F (by omega) hw (r174_45F (by omega) hw (r174_60 ?_)))⟩
          rw [st] at k
          rw [ed, er]
          exact k
        · have st := bx_2 (V := V) (w := 1000) (k := c) (fun q => hw q.2)
          refine ⟨_, M1, ⟨rfl, .inl (V (c / 6) (c % 6) : Int), rfl⟩, fun r M' k => pre r M' (r174_42T (by omega) (by omega) (r174_55T (by omega) (by omega) (r174_62 ?_)))⟩
          rw [st] at k
          exact k
      · have st := bx_2 (V := V) (w := 1000) (k := c) (fun q => hl q.1)
        refine ⟨_, M1, ⟨rfl, v5, rfl⟩, fun r M' k => ?_⟩
        rw [st] at k
        exact r174_13F (by omega) (by omega) (r174_16T (by rw [ed, er]; omega) (by rw [ed, er]; omega) (r174_64 k))) [fx_f 56, .inl x1, .inl 0, .inl 1000, .inl 0, fx_u] MC ⟨rfl, fx_u, rfl⟩
    obtain ⟨L2, M2, ⟨rfl, w5, rfl⟩, kM⟩ := mod
    have eq : bx V 145 36 = bx V 1000 36 := bx_eq (Vb 0 1) 34
    have b := bx_b (V := V) (w := 1000) (by omega) 36 (by omega)
    have c0 : ∀ z M', Ev X 28 13 [fx_f 0, .inl x1, .inl 0, .inl 145, .inl 0, fx_u, fx_u] [] M (some (.inl z)) M' → Ev X 28 0 [fx_f 0, .inl x1, fx_u, fx_u, fx_u, fx_u, fx_u] [] M (some (.inl z)) M' := by
      intro z M' k
      by_cases x0 : x1 = 0
      · exact r28_0T h1 x0 (r28_7 k)
      · exact r28_0F h1 x0 (r28_2T h1 (by omega) (r28_7 k))
    rw [show 6 * 6 = 36 from rfl, eq] at kC
    have m0 : ∀ z M', Ev X 174 13 [fx_f 56, .inl x1, .inl 0, .inl 1000, .inl 0, fx_u] [] M2 (some (.inl z)) M' → Ev X 174 0 [fx_f 56, .inl x1, fx_u, fx_u, fx_u, fx_u] [] M2 (some (.inl z)) M' := fun z M' k => r174_0 (evm_in_y (by omega) h1 (by decide) (by decide)) (r174_4T (by omega) (by omega) (r174_7 k))
    by_cases x0 : x1 = 0
    · exact OP_read (z := (bx V 1000 36).1) hI (c0 _ _ (kC _ _ (r28_13T (by omega) (by omega) (r28_43F h1 x0 r28_45)))) fC (m0 _ _ (kM _ _ (r174_13T (by omega) (by omega) (r174_66F h1 x0 r174_68)))) (frM_r _) (by constructor <;> omega)
    · exact OP_read (z := (bx V 1000 36).2) hI (c0 _ _ (kC _ _ (r28_13T (by omega) (by omega) (r28_43T h1 x0 r28_47)))) fC (m0 _ _ (kM _ _ (r174_13T (by omega) (by omega) (r174_66T h1 x0 r174_70)))) (frM_r _) (by constructor <;> omega)
  · exact OP_read (z := -2) hI (r28_0F h1 (by omega) (r28_2F h1 (by omega) r28_5)) (frC_r M) (r174_0 (evm_in_n (by omega) h1 (by decide) (by decide)) (r174_4F (by omega) rfl r174_5)) (frM_r M) (by decide)
end BX

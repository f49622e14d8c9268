-- 1: FoldedStrips.isPanel(I)Z
theorem fd_e1 : fd_C 1 = fd_c1 := rfl
theorem r1_0T {X : fx_Sc} {M M' : fx_M} {r : Option fx_V} {x0 : Int} (g : (-2147483648 ≤ x0 ∧ x0 < 2147483648)) (h : x0 < 0) (k : Ev X 1 7 [.inl (x0)] [] M r M') : Ev X 1 0 [.inl (x0)] [] M r M' := by
  refine Ev.run 1 fd_e1 (i' := 1) (ls' := [.inl (x0)]) (st' := [.inl (x0)]) (M1 := M) rfl ?_
  refine Ev.ifT fd_e1 rfl g (decide_eq_true h) ?_
  exact k
theorem r1_0F {X : fx_Sc} {M M' : fx_M} {r : Option fx_V} {x0 : Int} (g : (-2147483648 ≤ x0 ∧ x0 < 2147483648)) (h : 0 ≤ x0) (k : Ev X 1 2 [.inl (x0)] [] M r M') : Ev X 1 0 [.inl (x0)] [] M r M' := by
  refine Ev.run 1 fd_e1 (i' := 1) (ls' := [.inl (x0)]) (st' := [.inl (x0)]) (M1 := M) rfl ?_
  refine Ev.ifF fd_e1 rfl g (decide_eq_false (Int.not_lt.mpr h)) ?_
  exact k
theorem r1_2T {X : fx_Sc} {M M' : fx_M} {r : Option fx_V} {x0 : Int} (g : (-2147483648 ≤ x0 ∧ x0 < 2147483648)) (h : 6 ≤ x0) (k : Ev X 1 7 [.inl (x0)] [] M r M') : Ev X 1 2 [.inl (x0)] [] M r M' := by
  refine Ev.run 2 fd_e1 (i' := 4) (ls' := [.inl (x0)]) (st' := [.inl (6), .inl (x0)]) (M1 := M) rfl ?_
  refine Ev.icT fd_e1 rfl g (by decide) (decide_eq_true h) ?_
  exact k
theorem r1_2F {X : fx_Sc} {M M' : fx_M} {r : Option fx_V} {x0 : Int} (g : (-2147483648 ≤ x0 ∧ x0 < 2147483648)) (h : x0 < 6) (k : Ev X 1 5 [.inl (x0)] [] M r M') : Ev X 1 2 [.inl (x0)] [] M r M' := by
  refine Ev.run 2 fd_e1 (i' := 4) (ls' := [.inl (x0)]) (st' := [.inl (6), .inl (x0)]) (M1 := M) rfl ?_
  refine Ev.icF fd_e1 rfl g (by decide) (decide_eq_false (Int.not_le.mpr h)) ?_
  exact k
theorem r1_5 {X : fx_Sc} {M : fx_M} {x0 : Int} : Ev X 1 5 [.inl (x0)] [] M (some (.inl (1))) M := by
  refine Ev.run 2 fd_e1 (i' := 8) (ls' := [.inl (x0)]) (st' := [.inl (1)]) (M1 := M) rfl ?_
  exact Ev.ret2 fd_e1 rfl rfl (by decide)
theorem r1_7 {X : fx_Sc} {M : fx_M} {x0 : Int} : Ev X 1 7 [.inl (x0)] [] M (some (.inl (0))) M := by
  refine Ev.run 1 fd_e1 (i' := 8) (ls' := [.inl (x0)]) (st' := [.inl (0)]) (M1 := M) rfl ?_
  exact Ev.ret2 fd_e1 rfl rfl (by decide)
-- 2: FoldedStrips.isHand(I)Z
theorem fd_e2 : fd_C 2 = fd_c2 := rfl
theorem r2_0T {X : fx_Sc} {M M' : fx_M} {r : Option fx_V} {x0 : Int} (g : (-2147483648 ≤ x0 ∧ x0 < 2147483648)) (h : x0 < 0) (k : Ev X 2 7 [.inl (x0)] [] M r M') : Ev X 2 0 [.inl (x0)] [] M r M' := by
  refine Ev.run 1 fd_e2 (i' := 1) (ls' := [.inl (x0)]) (st' := [.inl (x0)]) (M1 := M) rfl ?_
  refine Ev.ifT fd_e2 rfl g (decide_eq_true h) ?_
  exact k
theorem r2_0F {X : fx_Sc} {M M' : fx_M} {r : Option fx_V} {x0 : Int} (g : (-2147483648 ≤ x0 ∧ x0 < 2147483648)) (h : 0 ≤ x0) (k : Ev X 2 2 [.inl (x0)] [] M r M') : Ev X 2 0 [.inl (x0)] [] M r M' := by
  refine Ev.run 1 fd_e2 (i' := 1) (ls' := [.inl (x0)]) (st' := [.inl (x0)]) (M1 := M) rfl ?_
  refine Ev.ifF fd_e2 rfl g (decide_eq_false (Int.not_lt.mpr h)) ?_
  exact k
theorem r2_2T {X : fx_Sc} {M M' : fx_M} {r : Option fx_V} {x0 : Int} (g : (-2147483648 ≤ x0 ∧ x0 < 2147483648)) (h : 6 ≤ x0) (k : Ev X 2 7 [.inl (x0)] [] M r M') : Ev X 2 2 [.inl (x0)] [] M r M' := by
  refine Ev.run 2 fd_e2 (i' := 4) (ls' := [.inl (x0)]) (st' := [.inl (6), .inl (x0)]) (M1 := M) rfl ?_
  refine Ev.icT fd_e2 rfl g (by decide) (decide_eq_true h) ?_
  exact k
theorem r2_2F {X : fx_Sc} {M M' : fx_M} {r : Option fx_V} {x0 : Int} (g : (-2147483648 ≤ x0 ∧ x0 < 2147483648)) (h : x0 < 6) (k : Ev X 2 5 [.inl (x0)] [] M r M') : Ev X 2 2 [.inl (x0)] [] M r M' := by
  refine Ev.run 2 fd_e2 (i' := 4) (ls' := [.inl (x0)]) (st' := [.inl (6), .inl (x0)]) (M1 := M) rfl ?_
  refine Ev.icF fd_e2 rfl g (by decide) (decide_eq_false (Int.not_le.mpr h)) ?_
  exact k
theorem r2_5 {X : fx_Sc} {M : fx_M} {x0 : Int} : Ev X 2 5 [.inl (x0)] [] M (some (.inl (1))) M := by
  refine Ev.run 2 fd_e2 (i' := 8) (ls' := [.inl (x0)]) (st' := [.inl (1)]) (M1 := M) rfl ?_
  exact Ev.ret2 fd_e2 rfl rfl (by decide)
theorem r2_7 {X : fx_Sc} {M : fx_M} {x0 : Int} : Ev X 2 7 [.inl (x0)] [] M (some (.inl (0))) M := by
  refine Ev.run 1 fd_e2 (i' := 8) (ls' := [.inl (x0)]) (st' := [.inl (0)]) (M1 := M) rfl ?_
  exact Ev.ret2 fd_e2 rfl rfl (by decide)
-- 3: FoldedStrips.placeOf(II)I
theorem fd_e3 : fd_C 3 = fd_c3 := rfl
theorem r3_0 {X : fx_Sc} {M : fx_M} {x0 x1 : Int} : Ev X 3 0 [.inl (x0), .inl (x1)] [] M (some (.inl (((x0 * 24) + x1)))) M := by
  refine Ev.run 5 fd_e3 (i' := 5) (ls' := [.inl (x0), .inl (x1)]) (st' := [.inl (((x0 * 24) + x1))]) (M1 := M) rfl ?_
  exact Ev.ret1 fd_e3 rfl rfl
-- 4: FoldedStrips.isEnd(I)Z
theorem fd_e4 : fd_C 4 = fd_c4 := rfl
theorem r4_0T {X : fx_Sc} {M M' : fx_M} {r : Option fx_V} {x0 : Int} (g : (-2147483648 ≤ x0 ∧ x0 < 2147483648)) (h : x0 < 0) (k : Ev X 4 7 [.inl (x0)] [] M r M') : Ev X 4 0 [.inl (x0)] [] M r M' := by
  refine Ev.run 1 fd_e4 (i' := 1) (ls' := [.inl (x0)]) (st' := [.inl (x0)]) (M1 := M) rfl ?_
  refine Ev.ifT fd_e4 rfl g (decide_eq_true h) ?_
  exact k
theorem r4_0F {X : fx_Sc} {M M' : fx_M} {r : Option fx_V} {x0 : Int} (g : (-2147483648 ≤ x0 ∧ x0 < 2147483648)) (h : 0 ≤ x0) (k : Ev X 4 2 [.inl (x0)] [] M r M') : Ev X 4 0 [.inl (x0)] [] M r M' := by
  refine Ev.run 1 fd_e4 (i' := 1) (ls' := [.inl (x0)]) (st' := [.inl (x0)]) (M1 := M) rfl ?_
  refine Ev.ifF fd_e4 rfl g (decide_eq_false (Int.not_lt.mpr h)) ?_
  exact k
theorem r4_2T {X : fx_Sc} {M M' : fx_M} {r : Option fx_V} {x0 : Int} (g : (-2147483648 ≤ x0 ∧ x0 < 2147483648)) (h : 24 ≤ x0) (k : Ev X 4 7 [.inl (x0)] [] M r M') : Ev X 4 2 [.inl (x0)] [] M r M' := by
  refine Ev.run 2 fd_e4 (i' := 4) (ls' := [.inl (x0)]) (st' := [.inl (24), .inl (x0)]) (M1 := M) rfl ?_
  refine Ev.icT fd_e4 rfl g (by decide) (decide_eq_true h) ?_
  exact k
theorem r4_2F {X : fx_Sc} {M M' : fx_M} {r : Option fx_V} {x0 : Int} (g : (-2147483648 ≤ x0 ∧ x0 < 2147483648)) (h : x0 < 24) (k : Ev X 4 5 [.inl (x0)] [] M r M') : Ev X 4 2 [.inl (x0)] [] M r M' := by
  refine Ev.run 2 fd_e4 (i' := 4) (ls' := [.inl (x0)]) (st' := [.inl (24), .inl (x0)]) (M1 := M) rfl ?_
  refine Ev.icF fd_e4 rfl g (by decide) (decide_eq_false (Int.not_le.mpr h)) ?_
  exact k
theorem r4_5 {X : fx_Sc} {M : fx_M} {x0 : Int} : Ev X 4 5 [.inl (x0)] [] M (some (.inl (1))) M := by
  refine Ev.run 2 fd_e4 (i' := 8) (ls' := [.inl (x0)]) (st' := [.inl (1)]) (M1 := M) rfl ?_
  exact Ev.ret2 fd_e4 rfl rfl (by decide)
theorem r4_7 {X : fx_Sc} {M : fx_M} {x0 : Int} : Ev X 4 7 [.inl (x0)] [] M (some (.inl (0))) M := by
  refine Ev.run 1 fd_e4 (i' := 8) (ls' := [.inl (x0)]) (st' := [.inl (0)]) (M1 := M) rfl ?_
  exact Ev.ret2 fd_e4 rfl rfl (by decide)
-- 5: FoldedStrips.upperEdge(I)I
theorem fd_e5 : fd_C 5 = fd_c5 := rfl
theorem r5_0 {X : fx_Sc} {M : fx_M} {x0 : Int} : Ev X 5 0 [.inl (x0)] [] M (some (.inl ((2 * x0)))) M := by
  refine Ev.run 3 fd_e5 (i' := 3) (ls' := [.inl (x0)]) (st' := [.inl ((2 * x0))]) (M1 := M) rfl ?_
  exact Ev.ret1 fd_e5 rfl rfl
-- 6: FoldedStrips.isPlace(I)Z
theorem fd_e6 : fd_C 6 = fd_c6 := rfl
theorem r6_0T {X : fx_Sc} {M M' : fx_M} {r : Option fx_V} {x0 : Int} (g : (-2147483648 ≤ x0 ∧ x0 < 2147483648)) (h : x0 < 0) (k : Ev X 6 7 [.inl (x0)] [] M r M') : Ev X 6 0 [.inl (x0)] [] M r M' := by
  refine Ev.run 1 fd_e6 (i' := 1) (ls' := [.inl (x0)]) (st' := [.inl (x0)]) (M1 := M) rfl ?_
  refine Ev.ifT fd_e6 rfl g (decide_eq_true h) ?_
  exact k
theorem r6_0F {X : fx_Sc} {M M' : fx_M} {r : Option fx_V} {x0 : Int} (g : (-2147483648 ≤ x0 ∧ x0 < 2147483648)) (h : 0 ≤ x0) (k : Ev X 6 2 [.inl (x0)] [] M r M') : Ev X 6 0 [.inl (x0)] [] M r M' := by
  refine Ev.run 1 fd_e6 (i' := 1) (ls' := [.inl (x0)]) (st' := [.inl (x0)]) (M1 := M) rfl ?_
  refine Ev.ifF fd_e6 rfl g (decide_eq_false (Int.not_lt.mpr h)) ?_
  exact k
theorem r6_2T {X : fx_Sc} {M M' : fx_M} {r : Option fx_V} {x0 : Int} (g : (-2147483648 ≤ x0 ∧ x0 < 2147483648)) (h : 144 ≤ x0) (k : Ev X 6 7 [.inl (x0)] [] M r M') : Ev X 6 2 [.inl (x0)] [] M r M' := by
  refine Ev.run 2 fd_e6 (i' := 4) (ls' := [.inl (x0)]) (st' := [.inl (144), .inl (x0)]) (M1 := M) rfl ?_
  refine Ev.icT fd_e6 rfl g (by decide) (decide_eq_true h) ?_
  exact k
theorem r6_2F {X : fx_Sc} {M M' : fx_M} {r : Option fx_V} {x0 : Int} (g : (-2147483648 ≤ x0 ∧ x0 < 2147483648)) (h : x0 < 144) (k : Ev X 6 5 [.inl (x0)] [] M r M') : Ev X 6 2 [.inl (x0)] [] M r M' := by
  refine Ev.run 2 fd_e6 (i' := 4) (ls' := [.inl (x0)]) (st' := [.inl (144), .inl (x0)]) (M1 := M) rfl ?_
  refine Ev.icF fd_e6 rfl g (by decide) (decide_eq_false (Int.not_le.mpr h)) ?_
  exact k
theorem r6_5 {X : fx_Sc} {M : fx_M} {x0 : Int} : Ev X 6 5 [.inl (x0)] [] M (some (.inl (1))) M := by
  refine Ev.run 2 fd_e6 (i' := 8) (ls' := [.inl (x0)]) (st' := [.inl (1)]) (M1 := M) rfl ?_
  exact Ev.ret2 fd_e6 rfl rfl (by decide)
theorem r6_7 {X : fx_Sc} {M : fx_M} {x0 : Int} : Ev X 6 7 [.inl (x0)] [] M (some (.inl (0))) M := by
  refine Ev.run 1 fd_e6 (i' := 8) (ls' := [.inl (x0)]) (st' := [.inl (0)]) (M1 := M) rfl ?_
  exact Ev.ret2 fd_e6 rfl rfl (by decide)
-- 7: FoldedStrips.lowerEdge(I)I
theorem fd_e7 : fd_C 7 = fd_c7 := rfl
theorem r7_0 {X : fx_Sc} {M : fx_M} {x0 : Int} : Ev X 7 0 [.inl (x0)] [] M (some (.inl (((2 * x0) + 1)))) M := by
  refine Ev.run 5 fd_e7 (i' := 5) (ls' := [.inl (x0)]) (st' := [.inl (((2 * x0) + 1))]) (M1 := M) rfl ?_
  exact Ev.ret1 fd_e7 rfl rfl
-- 8: FoldedStrips.join(III)I
theorem fd_e8 : fd_C 8 = fd_c8 := rfl
theorem r8_0 {X : fx_Sc} {M M' : fx_M} {r : Option fx_V} {x1 x2 x3 z : Int} {M1 : fx_M} (hc : Ev X 1 0 [.inl (x1)] [] M (some (.inl z)) M1) (k : Ev X 8 2 [fx_f 0, .inl (x1), .inl (x2), .inl (x3)] [.inl (z)] M1 r M') : Ev X 8 0 [fx_f 0, .inl (x1), .inl (x2), .inl (x3)] [] M r M' := by
  refine Ev.run 1 fd_e8 (i' := 1) (ls' := [fx_f 0, .inl (x1), .inl (x2), .inl (x3)]) (st' := [.inl (x1)]) (M1 := M) rfl ?_
  refine Ev.callS (vs := [.inl (x1)]) (rest := []) (r1 := (some (.inl z))) fd_e8 rfl rfl rfl (Nat.le_of_ble_eq_true rfl) (Nat.le_of_ble_eq_true rfl) hc ?_
  exact k
theorem r8_2T {X : fx_Sc} {M M' : fx_M} {r : Option fx_V} {x1 x2 x3 s0 : Int} (g : (-2147483648 ≤ s0 ∧ s0 < 2147483648)) (h : s0 = 0) (k : Ev X 8 9 [fx_f 0, .inl (x1), .inl (x2), .inl (x3)] [] M r M') : Ev X 8 2 [fx_f 0, .inl (x1), .inl (x2), .inl (x3)] [.inl (s0)] M r M' := by
  refine Ev.ifT fd_e8 rfl g (decide_eq_true h) ?_
  exact k
theorem r8_2F {X : fx_Sc} {M M' : fx_M} {r : Option fx_V} {x1 x2 x3 s0 : Int} (g : (-2147483648 ≤ s0 ∧ s0 < 2147483648)) (h : s0 ≠ 0) (k : Ev X 8 3 [fx_f 0, .inl (x1), .inl (x2), .inl (x3)] [] M r M') : Ev X 8 2 [fx_f 0, .inl (x1), .inl (x2), .inl (x3)] [.inl (s0)] M r M' := by
  refine Ev.ifF fd_e8 rfl g (decide_eq_false h) ?_
  exact k
theorem r8_3 {X : fx_Sc} {M M' : fx_M} {r : Option fx_V} {x1 x2 x3 z : Int} {M1 : fx_M} (hc : Ev X 4 0 [.inl (x2)] [] M (some (.inl z)) M1) (k : Ev X 8 5 [fx_f 0, .inl (x1), .inl (x2), .inl (x3)] [.inl (z)] M1 r M') : Ev X 8 3 [fx_f 0, .inl (x1), .inl (x2), .inl (x3)] [] M r M' := by
  refine Ev.run 1 fd_e8 (i' := 4) (ls' := [fx_f 0, .inl (x1), .inl (x2), .inl (x3)]) (st' := [.inl (x2)]) (M1 := M) rfl ?_
  refine Ev.callS (vs := [.inl (x2)]) (rest := []) (r1 := (some (.inl z))) fd_e8 rfl rfl rfl (Nat.le_of_ble_eq_true rfl) (Nat.le_of_ble_eq_true rfl) hc ?_
  exact k
theorem r8_5T {X : fx_Sc} {M M' : fx_M} {r : Option fx_V} {x1 x2 x3 s0 : Int} (g : (-2147483648 ≤ s0 ∧ s0 < 2147483648)) (h : s0 = 0) (k : Ev X 8 9 [fx_f 0, .inl (x1), .inl (x2), .inl (x3)] [] M r M') : Ev X 8 5 [fx_f 0, .inl (x1), .inl (x2), .inl (x3)] [.inl (s0)] M r M' := by
  refine Ev.ifT fd_e8 rfl g (decide_eq_true h) ?_
  exact k
theorem r8_5F {X : fx_Sc} {M M' : fx_M} {r : Option fx_V} {x1 x2 x3 s0 : Int} (g : (-2147483648 ≤ s0 ∧ s0 < 2147483648)) (h : s0 ≠ 0) (k : Ev X 8 6 [fx_f 0, .inl (x1), .inl (x2), .inl (x3)] [] M r M') : Ev X 8 5 [fx_f 0, .inl (x1), .inl (x2), .inl (x3)] [.inl (s0)] M r M' := by
  refine Ev.ifF fd_e8 rfl g (decide_eq_false h) ?_
  exact k
theorem r8_6 {X : fx_Sc} {M M' : fx_M} {r : Option fx_V} {x1 x2 x3 z : Int} {M1 : fx_M} (hc : Ev X 4 0 [.inl (x3)] [] M (some (.inl z)) M1) (k : Ev X 8 8 [fx_f 0, .inl (x1), .inl (x2), .inl (x3)] [.inl (z)] M1 r M') : Ev X 8 6 [fx_f 0, .inl (x1), .inl (x2), .inl (x3)] [] M r M' := by
  refine Ev.run 1 fd_e8 (i' := 7) (ls' := [fx_f 0, .inl (x1), .inl (x2), .inl (x3)]) (st' := [.inl (x3)]) (M1 := M) rfl ?_
  refine Ev.callS (vs := [.inl (x3)]) (rest := []) (r1 := (some (.inl z))) fd_e8 rfl rfl rfl (Nat.le_of_ble_eq_true rfl) (Nat.le_of_ble_eq_true rfl) hc ?_
  exact k
theorem r8_8T {X : fx_Sc} {M M' : fx_M} {r : Option fx_V} {x1 x2 x3 s0 : Int} (g : (-2147483648 ≤ s0 ∧ s0 < 2147483648)) (h : s0 ≠ 0) (k : Ev X 8 11 [fx_f 0, .inl (x1), .inl (x2), .inl (x3)] [] M r M') : Ev X 8 8 [fx_f 0, .inl (x1), .inl (x2), .inl (x3)] [.inl (s0)] M r M' := by
  refine Ev.ifT fd_e8 rfl g (decide_eq_true h) ?_
  exact k
theorem r8_8F {X : fx_Sc} {M M' : fx_M} {r : Option fx_V} {x1 x2 x3 s0 : Int} (g : (-2147483648 ≤ s0 ∧ s0 < 2147483648)) (h : s0 = 0) (k : Ev X 8 9 [fx_f 0, .inl (x1), .inl (x2), .inl (x3)] [] M r M') : Ev X 8 8 [fx_f 0, .inl (x1), .inl (x2), .inl (x3)] [.inl (s0)] M r M' := by
  refine Ev.ifF fd_e8 rfl g (decide_eq_false (not_not_intro h)) ?_
  exact k
theorem r8_9 {X : fx_Sc} {M : fx_M} {x1 x2 x3 : Int} : Ev X 8 9 [fx_f 0, .inl (x1), .inl (x2), .inl (x3)] [] M (some (.inl ((-1)))) M := by
  refine Ev.run 1 fd_e8 (i' := 10) (ls' := [fx_f 0, .inl (x1), .inl (x2), .inl (x3)]) (st' := [.inl ((-1))]) (M1 := M) rfl ?_
  exact Ev.ret1 fd_e8 rfl rfl
theorem r8_11T {X : fx_Sc} {M M' : fx_M} {r : Option fx_V} {x1 x2 x3 : Int} (g : (-2147483648 ≤ x2 ∧ x2 < 2147483648) ∧ (-2147483648 ≤ x3 ∧ x3 < 2147483648)) (h : x2 ≠ x3) (k : Ev X 8 16 [fx_f 0, .inl (x1), .inl (x2), .inl (x3)] [] M r M') : Ev X 8 11 [fx_f 0, .inl (x1), .inl (x2), .inl (x3)] [] M r M' := by
  refine Ev.run 2 fd_e8 (i' := 13) (ls' := [fx_f 0, .inl (x1), .inl (x2), .inl (x3)]) (st' := [.inl (x3), .inl (x2)]) (M1 := M) rfl ?_
  refine Ev.icT fd_e8 rfl g.1 g.2 (decide_eq_true h) ?_
  exact k
theorem r8_11F {X : fx_Sc} {M M' : fx_M} {r : Option fx_V} {x1 x2 x3 : Int} (g : (-2147483648 ≤ x2 ∧ x2 < 2147483648) ∧ (-2147483648 ≤ x3 ∧ x3 < 2147483648)) (h : x2 = x3) (k : Ev X 8 14 [fx_f 0, .inl (x1), .inl (x2), .inl (x3)] [] M r M') : Ev X 8 11 [fx_f 0, .inl (x1), .inl (x2), .inl (x3)] [] M r M' := by
  refine Ev.run 2 fd_e8 (i' := 13) (ls' := [fx_f 0, .inl (x1), .inl (x2), .inl (x3)]) (st' := [.inl (x3), .inl (x2)]) (M1 := M) rfl ?_
  refine Ev.icF fd_e8 rfl g.1 g.2 (decide_eq_false (not_not_intro h)) ?_
  exact k
theorem r8_14 {X : fx_Sc} {M : fx_M} {x1 x2 x3 : Int} : Ev X 8 14 [fx_f 0, .inl (x1), .inl (x2), .inl (x3)] [] M (some (.inl ((-2)))) M := by
  refine Ev.run 1 fd_e8 (i' := 15) (ls' := [fx_f 0, .inl (x1), .inl (x2), .inl (x3)]) (st' := [.inl ((-2))]) (M1 := M) rfl ?_
  exact Ev.ret1 fd_e8 rfl rfl
theorem r8_16 {X : fx_Sc} {M M' : fx_M} {r : Option fx_V} {x1 x2 x3 z : Int} {M1 : fx_M} (hc : Ev X 3 0 [.inl (x1), .inl (x2)] [] M (some (.inl z)) M1) (k : Ev X 8 21 [fx_f 0, .inl (x1), .inl (x2), .inl (x3)] [.inl (z), fx_f 1] M1 r M') : Ev X 8 16 [fx_f 0, .inl (x1), .inl (x2), .inl (x3)] [] M r M' := by
  refine Ev.run 4 fd_e8 (i' := 20) (ls' := [fx_f 0, .inl (x1), .inl (x2), .inl (x3)]) (st' := [.inl (x2), .inl (x1), fx_f 1]) (M1 := M) rfl ?_
  refine Ev.callS (vs := [.inl (x1), .inl (x2)]) (rest := [fx_f 1]) (r1 := (some (.inl z))) fd_e8 rfl rfl rfl (Nat.le_of_ble_eq_true rfl) (Nat.le_of_ble_eq_true rfl) hc ?_
  exact k
theorem r8_21 {X : fx_Sc} {M M' : fx_M} {r : Option fx_V} {x1 x2 x3 s1 z : Int} {M1 : fx_M} (hc : Ev X 83 0 [fx_f 1, .inl (s1)] [] M (some (.inl z)) M1) (k : Ev X 8 22 [fx_f 0, .inl (x1), .inl (x2), .inl (x3)] [.inl (z)] M1 r M') : Ev X 8 21 [fx_f 0, .inl (x1), .inl (x2), .inl (x3)] [.inl (s1), fx_f 1] M r M' := by
  refine Ev.callV (vs := [fx_f 1, .inl (s1)]) (rest := []) (r1 := (some (.inl z))) fd_e8 rfl rfl rfl (Nat.le_of_ble_eq_true rfl) (Nat.le_of_ble_eq_true rfl) (fd_rcvS fd_is1) hc ?_
  exact k
theorem r8_22T {X : fx_Sc} {M M' : fx_M} {r : Option fx_V} {x1 x2 x3 s0 : Int} (g : (-2147483648 ≤ s0 ∧ s0 < 2147483648)) (h : s0 ≠ 0) (k : Ev X 8 30 [fx_f 0, .inl (x1), .inl (x2), .inl (x3)] [] M r M') : Ev X 8 22 [fx_f 0, .inl (x1), .inl (x2), .inl (x3)] [.inl (s0)] M r M' := by
  refine Ev.ifT fd_e8 rfl g (decide_eq_true h) ?_
  exact k
theorem r8_22F {X : fx_Sc} {M M' : fx_M} {r : Option fx_V} {x1 x2 x3 s0 : Int} (g : (-2147483648 ≤ s0 ∧ s0 < 2147483648)) (h : s0 = 0) (k : Ev X 8 23 [fx_f 0, .inl (x1), .inl (x2), .inl (x3)] [] M r M') : Ev X 8 22 [fx_f 0, .inl (x1), .inl (x2), .inl (x3)] [.inl (s0)] M r M' := by
  refine Ev.ifF fd_e8 rfl g (decide_eq_false (not_not_intro h)) ?_
  exact k
theorem r8_23 {X : fx_Sc} {M M' : fx_M} {r : Option fx_V} {x1 x2 x3 z : Int} {M1 : fx_M} (hc : Ev X 3 0 [.inl (x1), .inl (x3)] [] M (some (.inl z)) M1) (k : Ev X 8 28 [fx_f 0, .inl (x1), .inl (x2), .inl (x3)] [.inl (z), fx_f 1] M1 r M') : Ev X 8 23 [fx_f 0, .inl (x1), .inl (x2), .inl (x3)] [] M r M' := by
  refine Ev.run 4 fd_e8 (i' := 27) (ls' := [fx_f 0, .inl (x1), .inl (x2), .inl (x3)]) (st' := [.inl (x3), .inl (x1), fx_f 1]) (M1 := M) rfl ?_
  refine Ev.callS (vs := [.inl (x1), .inl (x3)]) (rest := [fx_f 1]) (r1 := (some (.inl z))) fd_e8 rfl rfl rfl (Nat.le_of_ble_eq_true rfl) (Nat.le_of_ble_eq_true rfl) hc ?_
  exact k
theorem r8_28 {X : fx_Sc} {M M' : fx_M} {r : Option fx_V} {x1 x2 x3 s1 z : Int} {M1 : fx_M} (hc : Ev X 83 0 [fx_f 1, .inl (s1)] [] M (some (.inl z)) M1) (k : Ev X 8 29 [fx_f 0, .inl (x1), .inl (x2), .inl (x3)] [.inl (z)] M1 r M') : Ev X 8 28 [fx_f 0, .inl (x1), .inl (x2), .inl (x3)] [.inl (s1), fx_f 1] M r M' := by
  refine Ev.callV (vs := [fx_f 1, .inl (s1)]) (rest := []) (r1 := (some (.inl z))) fd_e8 rfl rfl rfl (Nat.le_of_ble_eq_true rfl) (Nat.le_of_ble_eq_true rfl) (fd_rcvS fd_is1) hc ?_
  exact k
theorem r8_29T {X : fx_Sc} {M M' : fx_M} {r : Option fx_V} {x1 x2 x3 s0 : Int} (g : (-2147483648 ≤ s0 ∧ s0 < 2147483648)) (h : s0 = 0) (k : Ev X 8 32 [fx_f 0, .inl (x1), .inl (x2), .inl (x3)] [] M r M') : Ev X 8 29 [fx_f 0, .inl (x1), .inl (x2), .inl (x3)] [.inl (s0)] M r M' := by
  refine Ev.ifT fd_e8 rfl g (decide_eq_true h) ?_
  exact k
theorem r8_29F {X : fx_Sc} {M M' : fx_M} {r : Option fx_V} {x1 x2 x3 s0 : Int} (g : (-2147483648 ≤ s0 ∧ s0 < 2147483648)) (h : s0 ≠ 0) (k : Ev X 8 30 [fx_f 0, .inl (x1), .inl (x2), .inl (x3)] [] M r M') : Ev X 8 29 [fx_f 0, .inl (x1), .inl (x2), .inl (x3)] [.inl (s0)] M r M' := by
  refine Ev.ifF fd_e8 rfl g (decide_eq_false h) ?_
  exact k
theorem r8_30 {X : fx_Sc} {M : fx_M} {x1 x2 x3 : Int} : Ev X 8 30 [fx_f 0, .inl (x1), .inl (x2), .inl (x3)] [] M (some (.inl ((-5)))) M := by
  refine Ev.run 1 fd_e8 (i' := 31) (ls' := [fx_f 0, .inl (x1), .inl (x2), .inl (x3)]) (st' := [.inl ((-5))]) (M1 := M) rfl ?_
  exact Ev.ret1 fd_e8 rfl rfl
theorem r8_32 {X : fx_Sc} {M M' : fx_M} {r : Option fx_V} {x1 x2 x3 : Int} {M1 : fx_M} (hc : Ev X 38 0 [fx_f 19, fx_f 1, fx_u] [] M none M1) (k : Ev X 8 37 [fx_f 0, .inl (x1), .inl (x2), .inl (x3)] [] M1 r M') : Ev X 8 32 [fx_f 0, .inl (x1), .inl (x2), .inl (x3)] [] M r M' := by
  refine Ev.run 4 fd_e8 (i' := 36) (ls' := [fx_f 0, .inl (x1), .inl (x2), .inl (x3)]) (st' := [fx_f 1, fx_f 19]) (M1 := M) rfl ?_
  refine Ev.callV (vs := [fx_f 19, fx_f 1]) (rest := []) (r1 := none) fd_e8 rfl rfl rfl (Nat.le_of_ble_eq_true rfl) (Nat.le_of_ble_eq_true rfl) rfl hc ?_
  exact k
theorem r8_37 {X : fx_Sc} {M M' : fx_M} {r : Option fx_V} {x1 x2 x3 : Int} {M1 : fx_M} (hc : Ev X 80 0 [fx_f 1, .inl (x1), .inl (x2), .inl (x3)] [] M none M1) (k : Ev X 8 43 [fx_f 0, .inl (x1), .inl (x2), .inl (x3)] [] M1 r M') : Ev X 8 37 [fx_f 0, .inl (x1), .inl (x2), .inl (x3)] [] M r M' := by
  refine Ev.run 5 fd_e8 (i' := 42) (ls' := [fx_f 0, .inl (x1), .inl (x2), .inl (x3)]) (st' := [.inl (x3), .inl (x2), .inl (x1), fx_f 1]) (M1 := M) rfl ?_
  refine Ev.callV (vs := [fx_f 1, .inl (x1), .inl (x2), .inl (x3)]) (rest := []) (r1 := none) fd_e8 rfl rfl rfl (Nat.le_of_ble_eq_true rfl) (Nat.le_of_ble_eq_true rfl) (fd_rcvS fd_is1) hc ?_
  exact k
theorem r8_43 {X : fx_Sc} {M M' : fx_M} {r : Option fx_V} {x1 x2 x3 z : Int} {M1 : fx_M} (hc : Ev X 81 0 [fx_f 1, .inl (x1), fx_u] [] M (some (.inl z)) M1) (k : Ev X 8 47 [fx_f 0, .inl (x1), .inl (x2), .inl (x3)] [.inl (z)] M1 r M') : Ev X 8 43 [fx_f 0, .inl (x1), .inl (x2), .inl (x3)] [] M r M' := by
  refine Ev.run 3 fd_e8 (i' := 46) (ls' := [fx_f 0, .inl (x1), .inl (x2), .inl (x3)]) (st' := [.inl (x1), fx_f 1]) (M1 := M) rfl ?_
  refine Ev.callV (vs := [fx_f 1, .inl (x1)]) (rest := []) (r1 := (some (.inl z))) fd_e8 rfl rfl rfl (Nat.le_of_ble_eq_true rfl) (Nat.le_of_ble_eq_true rfl) (fd_rcvS fd_is1) hc ?_
  exact k
theorem r8_47 {X : fx_Sc} {M : fx_M} {x1 x2 x3 s0 : Int} : Ev X 8 47 [fx_f 0, .inl (x1), .inl (x2), .inl (x3)] [.inl (s0)] M (some (.inl (s0))) M := by
  exact Ev.ret1 fd_e8 rfl rfl
-- 9: FoldedStrips.rub(II)I
theorem fd_e9 : fd_C 9 = fd_c9 := rfl
theorem r9_0 {X : fx_Sc} {M M' : fx_M} {r : Option fx_V} {x1 x2 z : Int} {M1 : fx_M} (hc : Ev X 1 0 [.inl (x1)] [] M (some (.inl z)) M1) (k : Ev X 9 2 [fx_f 0, .inl (x1), .inl (x2), fx_u] [.inl (z)] M1 r M') : Ev X 9 0 [fx_f 0, .inl (x1), .inl (x2), fx_u] [] M r M' := by
  refine Ev.run 1 fd_e9 (i' := 1) (ls' := [fx_f 0, .inl (x1), .inl (x2), fx_u]) (st' := [.inl (x1)]) (M1 := M) rfl ?_
  refine Ev.callS (vs := [.inl (x1)]) (rest := []) (r1 := (some (.inl z))) fd_e9 rfl rfl rfl (Nat.le_of_ble_eq_true rfl) (Nat.le_of_ble_eq_true rfl) hc ?_
  exact k
theorem r9_2T {X : fx_Sc} {M M' : fx_M} {r : Option fx_V} {x1 x2 s0 : Int} (g : (-2147483648 ≤ s0 ∧ s0 < 2147483648)) (h : s0 = 0) (k : Ev X 9 6 [fx_f 0, .inl (x1), .inl (x2), fx_u] [] M r M') : Ev X 9 2 [fx_f 0, .inl (x1), .inl (x2), fx_u] [.inl (s0)] M r M' := by
  refine Ev.ifT fd_e9 rfl g (decide_eq_true h) ?_
  exact k
theorem r9_2F {X : fx_Sc} {M M' : fx_M} {r : Option fx_V} {x1 x2 s0 : Int} (g : (-2147483648 ≤ s0 ∧ s0 < 2147483648)) (h : s0 ≠ 0) (k : Ev X 9 3 [fx_f 0, .inl (x1), .inl (x2), fx_u] [] M r M') : Ev X 9 2 [fx_f 0, .inl (x1), .inl (x2), fx_u] [.inl (s0)] M r M' := by
  refine Ev.ifF fd_e9 rfl g (decide_eq_false h) ?_
  exact k
theorem r9_3 {X : fx_Sc} {M M' : fx_M} {r : Option fx_V} {x1 x2 z : Int} {M1 : fx_M} (hc : Ev X 4 0 [.inl (x2)] [] M (some (.inl z)) M1) (k : Ev X 9 5 [fx_f 0, .inl (x1), .inl (x2), fx_u] [.inl (z)] M1 r M') : Ev X 9 3 [fx_f 0, .inl (x1), .inl (x2), fx_u] [] M r M' := by
  refine Ev.run 1 fd_e9 (i' := 4) (ls' := [fx_f 0, .inl (x1), .inl (x2), fx_u]) (st' := [.inl (x2)]) (M1 := M) rfl ?_
  refine Ev.callS (vs := [.inl (x2)]) (rest := []) (r1 := (some (.inl z))) fd_e9 rfl rfl rfl (Nat.le_of_ble_eq_true rfl) (Nat.le_of_ble_eq_true rfl) hc ?_
  exact k
theorem r9_5T {X : fx_Sc} {M M' : fx_M} {r : Option fx_V} {x1 x2 s0 : Int} (g : (-2147483648 ≤ s0 ∧ s0 < 2147483648)) (h : s0 ≠ 0) (k : Ev X 9 8 [fx_f 0, .inl (x1), .inl (x2), fx_u] [] M r M') : Ev X 9 5 [fx_f 0, .inl (x1), .inl (x2), fx_u] [.inl (s0)] M r M' := by
  refine Ev.ifT fd_e9 rfl g (decide_eq_true h) ?_
  exact k
theorem r9_5F {X : fx_Sc} {M M' : fx_M} {r : Option fx_V} {x1 x2 s0 : Int} (g : (-2147483648 ≤ s0 ∧ s0 < 2147483648)) (h : s0 = 0) (k : Ev X 9 6 [fx_f 0, .inl (x1), .inl (x2), fx_u] [] M r M') : Ev X 9 5 [fx_f 0, .inl (x1), .inl (x2), fx_u] [.inl (s0)] M r M' := by
  refine Ev.ifF fd_e9 rfl g (decide_eq_false (not_not_intro h)) ?_
  exact k
theorem r9_6 {X : fx_Sc} {M : fx_M} {x1 x2 : Int} : Ev X 9 6 [fx_f 0, .inl (x1), .inl (x2), fx_u] [] M (some (.inl ((-1)))) M := by
  refine Ev.run 1 fd_e9 (i' := 7) (ls' := [fx_f 0, .inl (x1), .inl (x2), fx_u]) (st' := [.inl ((-1))]) (M1 := M) rfl ?_
  exact Ev.ret1 fd_e9 rfl rfl
theorem r9_8 {X : fx_Sc} {M M' : fx_M} {r : Option fx_V} {x1 x2 z : Int} {M1 : fx_M} (hc : Ev X 3 0 [.inl (x1), .inl (x2)] [] M (some (.inl z)) M1) (k : Ev X 9 13 [fx_f 0, .inl (x1), .inl (x2), fx_u] [.inl (z), fx_f 1] M1 r M') : Ev X 9 8 [fx_f 0, .inl (x1), .inl (x2), fx_u] [] M r M' := by
  refine Ev.run 4 fd_e9 (i' := 12) (ls' := [fx_f 0, .inl (x1), .inl (x2), fx_u]) (st' := [.inl (x2), .inl (x1), fx_f 1]) (M1 := M) rfl ?_
  refine Ev.callS (vs := [.inl (x1), .inl (x2)]) (rest := [fx_f 1]) (r1 := (some (.inl z))) fd_e9 rfl rfl rfl (Nat.le_of_ble_eq_true rfl) (Nat.le_of_ble_eq_true rfl) hc ?_
  exact k
theorem r9_13 {X : fx_Sc} {M M' : fx_M} {r : Option fx_V} {x1 x2 s1 z : Int} {M1 : fx_M} (hc : Ev X 84 0 [fx_f 1, .inl (s1)] [] M (some (.inl z)) M1) (k : Ev X 9 14 [fx_f 0, .inl (x1), .inl (x2), fx_u] [.inl (z)] M1 r M') : Ev X 9 13 [fx_f 0, .inl (x1), .inl (x2), fx_u] [.inl (s1), fx_f 1] M r M' := by
  refine Ev.callV (vs := [fx_f 1, .inl (s1)]) (rest := []) (r1 := (some (.inl z))) fd_e9 rfl rfl rfl (Nat.le_of_ble_eq_true rfl) (Nat.le_of_ble_eq_true rfl) (fd_rcvS fd_is1) hc ?_
  exact k
theorem r9_14T {X : fx_Sc} {M M' : fx_M} {r : Option fx_V} {x1 x2 s0 : Int} (g : (-2147483648 ≤ s0 ∧ s0 < 2147483648)) (h : s0 ≠ (-1)) (k : Ev X 9 20 [fx_f 0, .inl (x1), .inl (x2), .inl (s0)] [] M r M') : Ev X 9 14 [fx_f 0, .inl (x1), .inl (x2), fx_u] [.inl (s0)] M r M' := by
  refine Ev.run 3 fd_e9 (i' := 17) (ls' := [fx_f 0, .inl (x1), .inl (x2), .inl (s0)]) (st' := [.inl ((-1)), .inl (s0)]) (M1 := M) rfl ?_
  refine Ev.icT fd_e9 rfl g (by decide) (decide_eq_true h) ?_
  exact k
theorem r9_14F {X : fx_Sc} {M M' : fx_M} {r : Option fx_V} {x1 x2 s0 : Int} (g : (-2147483648 ≤ s0 ∧ s0 < 2147483648)) (h : s0 = (-1)) (k : Ev X 9 18 [fx_f 0, .inl (x1), .inl (x2), .inl (s0)] [] M r M') : Ev X 9 14 [fx_f 0, .inl (x1), .inl (x2), fx_u] [.inl (s0)] M r M' := by
  refine Ev.run 3 fd_e9 (i' := 17) (ls' := [fx_f 0, .inl (x1), .inl (x2), .inl (s0)]) (st' := [.inl ((-1)), .inl (s0)]) (M1 := M) rfl ?_
  refine Ev.icF fd_e9 rfl g (by decide) (decide_eq_false (not_not_intro h)) ?_
  exact k
theorem r9_18 {X : fx_Sc} {M : fx_M} {x1 x2 x3 : Int} : Ev X 9 18 [fx_f 0, .inl (x1), .inl (x2), .inl (x3)] [] M (some (.inl ((-5)))) M := by
  refine Ev.run 1 fd_e9 (i' := 19) (ls' := [fx_f 0, .inl (x1), .inl (x2), .inl (x3)]) (st' := [.inl ((-5))]) (M1 := M) rfl ?_
  exact Ev.ret1 fd_e9 rfl rfl
theorem r9_20 {X : fx_Sc} {M M' : fx_M} {r : Option fx_V} {x1 x2 x3 : Int} {M1 : fx_M} (hc : Ev X 38 0 [fx_f 19, fx_f 1, fx_u] [] M none M1) (k : Ev X 9 25 [fx_f 0, .inl (x1), .inl (x2), .inl (x3)] [] M1 r M') : Ev X 9 20 [fx_f 0, .inl (x1), .inl (x2), .inl (x3)] [] M r M' := by
  refine Ev.run 4 fd_e9 (i' := 24) (ls' := [fx_f 0, .inl (x1), .inl (x2), .inl (x3)]) (st' := [fx_f 1, fx_f 19]) (M1 := M) rfl ?_
  refine Ev.callV (vs := [fx_f 19, fx_f 1]) (rest := []) (r1 := none) fd_e9 rfl rfl rfl (Nat.le_of_ble_eq_true rfl) (Nat.le_of_ble_eq_true rfl) rfl hc ?_
  exact k
theorem r9_25 {X : fx_Sc} {M M' : fx_M} {r : Option fx_V} {x1 x2 x3 : Int} {M1 : fx_M} (hc : Ev X 85 0 [fx_f 1, .inl (x1), .inl (x2), .inl (x3)] [] M none M1) (k : Ev X 9 31 [fx_f 0, .inl (x1), .inl (x2), .inl (x3)] [] M1 r M') : Ev X 9 25 [fx_f 0, .inl (x1), .inl (x2), .inl (x3)] [] M r M' := by
  refine Ev.run 5 fd_e9 (i' := 30) (ls' := [fx_f 0, .inl (x1), .inl (x2), .inl (x3)]) (st' := [.inl (x3), .inl (x2), .inl (x1), fx_f 1]) (M1 := M) rfl ?_
  refine Ev.callV (vs := [fx_f 1, .inl (x1), .inl (x2), .inl (x3)]) (rest := []) (r1 := none) fd_e9 rfl rfl rfl (Nat.le_of_ble_eq_true rfl) (Nat.le_of_ble_eq_true rfl) (fd_rcvS fd_is1) hc ?_
  exact k
theorem r9_31 {X : fx_Sc} {M : fx_M} {x1 x2 x3 : Int} : Ev X 9 31 [fx_f 0, .inl (x1), .inl (x2), .inl (x3)] [] M (some (.inl (x3))) M := by
  refine Ev.run 1 fd_e9 (i' := 32) (ls' := [fx_f 0, .inl (x1), .inl (x2), .inl (x3)]) (st' := [.inl (x3)]) (M1 := M) rfl ?_
  exact Ev.ret1 fd_e9 rfl rfl
-- 10: FoldedStrips.clear(I)I
theorem fd_e10 : fd_C 10 = fd_c10 := rfl
theorem r10_0 {X : fx_Sc} {M M' : fx_M} {r : Option fx_V} {x1 z : Int} {M1 : fx_M} (hc : Ev X 1 0 [.inl (x1)] [] M (some (.inl z)) M1) (k : Ev X 10 2 [fx_f 0, .inl (x1), fx_u] [.inl (z)] M1 r M') : Ev X 10 0 [fx_f 0, .inl (x1), fx_u] [] M r M' := by
  refine Ev.run 1 fd_e10 (i' := 1) (ls' := [fx_f 0, .inl (x1), fx_u]) (st' := [.inl (x1)]) (M1 := M) rfl ?_
  refine Ev.callS (vs := [.inl (x1)]) (rest := []) (r1 := (some (.inl z))) fd_e10 rfl rfl rfl (Nat.le_of_ble_eq_true rfl) (Nat.le_of_ble_eq_true rfl) hc ?_
  exact k
theorem r10_2T {X : fx_Sc} {M M' : fx_M} {r : Option fx_V} {x1 s0 : Int} (g : (-2147483648 ≤ s0 ∧ s0 < 2147483648)) (h : s0 ≠ 0) (k : Ev X 10 5 [fx_f 0, .inl (x1), fx_u] [] M r M') : Ev X 10 2 [fx_f 0, .inl (x1), fx_u] [.inl (s0)] M r M' := by
  refine Ev.ifT fd_e10 rfl g (decide_eq_true h) ?_
  exact k
theorem r10_2F {X : fx_Sc} {M M' : fx_M} {r : Option fx_V} {x1 s0 : Int} (g : (-2147483648 ≤ s0 ∧ s0 < 2147483648)) (h : s0 = 0) (k : Ev X 10 3 [fx_f 0, .inl (x1), fx_u] [] M r M') : Ev X 10 2 [fx_f 0, .inl (x1), fx_u] [.inl (s0)] M r M' := by
  refine Ev.ifF fd_e10 rfl g (decide_eq_false (not_not_intro h)) ?_
  exact k
theorem r10_3 {X : fx_Sc} {M : fx_M} {x1 : Int} : Ev X 10 3 [fx_f 0, .inl (x1), fx_u] [] M (some (.inl ((-1)))) M := by
  refine Ev.run 1 fd_e10 (i' := 4) (ls' := [fx_f 0, .inl (x1), fx_u]) (st' := [.inl ((-1))]) (M1 := M) rfl ?_
  exact Ev.ret1 fd_e10 rfl rfl
theorem r10_5 {X : fx_Sc} {M M' : fx_M} {r : Option fx_V} {x1 z : Int} {M1 : fx_M} (hc : Ev X 81 0 [fx_f 1, .inl (x1), fx_u] [] M (some (.inl z)) M1) (k : Ev X 10 9 [fx_f 0, .inl (x1), fx_u] [.inl (z)] M1 r M') : Ev X 10 5 [fx_f 0, .inl (x1), fx_u] [] M r M' := by
  refine Ev.run 3 fd_e10 (i' := 8) (ls' := [fx_f 0, .inl (x1), fx_u]) (st' := [.inl (x1), fx_f 1]) (M1 := M) rfl ?_
  refine Ev.callV (vs := [fx_f 1, .inl (x1)]) (rest := []) (r1 := (some (.inl z))) fd_e10 rfl rfl rfl (Nat.le_of_ble_eq_true rfl) (Nat.le_of_ble_eq_true rfl) (fd_rcvS fd_is1) hc ?_
  exact k
theorem r10_9 {X : fx_Sc} {M M' : fx_M} {r : Option fx_V} {x1 s0 : Int} {M1 : fx_M} (hc : Ev X 38 0 [fx_f 19, fx_f 1, fx_u] [] M none M1) (k : Ev X 10 15 [fx_f 0, .inl (x1), .inl (s0)] [] M1 r M') : Ev X 10 9 [fx_f 0, .inl (x1), fx_u] [.inl (s0)] M r M' := by
  refine Ev.run 5 fd_e10 (i' := 14) (ls' := [fx_f 0, .inl (x1), .inl (s0)]) (st' := [fx_f 1, fx_f 19]) (M1 := M) rfl ?_
  refine Ev.callV (vs := [fx_f 19, fx_f 1]) (rest := []) (r1 := none) fd_e10 rfl rfl rfl (Nat.le_of_ble_eq_true rfl) (Nat.le_of_ble_eq_true rfl) rfl hc ?_
  exact k
theorem r10_15 {X : fx_Sc} {M M' : fx_M} {r : Option fx_V} {x1 x2 : Int} {M1 : fx_M} (hc : Ev X 78 0 [fx_f 1, .inl (x1), fx_u] [] M none M1) (k : Ev X 10 19 [fx_f 0, .inl (x1), .inl (x2)] [] M1 r M') : Ev X 10 15 [fx_f 0, .inl (x1), .inl (x2)] [] M r M' := by
  refine Ev.run 3 fd_e10 (i' := 18) (ls' := [fx_f 0, .inl (x1), .inl (x2)]) (st' := [.inl (x1), fx_f 1]) (M1 := M) rfl ?_
  refine Ev.callV (vs := [fx_f 1, .inl (x1)]) (rest := []) (r1 := none) fd_e10 rfl rfl rfl (Nat.le_of_ble_eq_true rfl) (Nat.le_of_ble_eq_true rfl) (fd_rcvS fd_is1) hc ?_
  exact k
theorem r10_19 {X : fx_Sc} {M : fx_M} {x1 x2 : Int} : Ev X 10 19 [fx_f 0, .inl (x1), .inl (x2)] [] M (some (.inl (x2))) M := by
  refine Ev.run 1 fd_e10 (i' := 20) (ls' := [fx_f 0, .inl (x1), .inl (x2)]) (st' := [.inl (x2)]) (M1 := M) rfl ?_
  exact Ev.ret1 fd_e10 rfl rfl
-- 11: FoldedStrips.slide(II)I
theorem fd_e11 : fd_C 11 = fd_c11 := rfl
theorem r11_0 {X : fx_Sc} {M M' : fx_M} {r : Option fx_V} {x1 x2 z : Int} {M1 : fx_M} (hc : Ev X 1 0 [.inl (x1)] [] M (some (.inl z)) M1) (k : Ev X 11 2 [fx_f 0, .inl (x1), .inl (x2)] [.inl (z)] M1 r M') : Ev X 11 0 [fx_f 0, .inl (x1), .inl (x2)] [] M r M' := by
  refine Ev.run 1 fd_e11 (i' := 1) (ls' := [fx_f 0, .inl (x1), .inl (x2)]) (st' := [.inl (x1)]) (M1 := M) rfl ?_
  refine Ev.callS (vs := [.inl (x1)]) (rest := []) (r1 := (some (.inl z))) fd_e11 rfl rfl rfl (Nat.le_of_ble_eq_true rfl) (Nat.le_of_ble_eq_true rfl) hc ?_
  exact k
theorem r11_2T {X : fx_Sc} {M M' : fx_M} {r : Option fx_V} {x1 x2 s0 : Int} (g : (-2147483648 ≤ s0 ∧ s0 < 2147483648)) (h : s0 ≠ 0) (k : Ev X 11 5 [fx_f 0, .inl (x1), .inl (x2)] [] M r M') : Ev X 11 2 [fx_f 0, .inl (x1), .inl (x2)] [.inl (s0)] M r M' := by
  refine Ev.ifT fd_e11 rfl g (decide_eq_true h) ?_
  exact k
theorem r11_2F {X : fx_Sc} {M M' : fx_M} {r : Option fx_V} {x1 x2 s0 : Int} (g : (-2147483648 ≤ s0 ∧ s0 < 2147483648)) (h : s0 = 0) (k : Ev X 11 3 [fx_f 0, .inl (x1), .inl (x2)] [] M r M') : Ev X 11 2 [fx_f 0, .inl (x1), .inl (x2)] [.inl (s0)] M r M' := by
  refine Ev.ifF fd_e11 rfl g (decide_eq_false (not_not_intro h)) ?_
  exact k
theorem r11_3 {X : fx_Sc} {M : fx_M} {x1 x2 : Int} : Ev X 11 3 [fx_f 0, .inl (x1), .inl (x2)] [] M (some (.inl ((-1)))) M := by
  refine Ev.run 1 fd_e11 (i' := 4) (ls' := [fx_f 0, .inl (x1), .inl (x2)]) (st' := [.inl ((-1))]) (M1 := M) rfl ?_
  exact Ev.ret1 fd_e11 rfl rfl
theorem r11_5T {X : fx_Sc} {M M' : fx_M} {r : Option fx_V} {x1 x2 : Int} (g : (-2147483648 ≤ x2 ∧ x2 < 2147483648)) (h : x2 ≤ (-12)) (k : Ev X 11 13 [fx_f 0, .inl (x1), .inl (x2)] [] M r M') : Ev X 11 5 [fx_f 0, .inl (x1), .inl (x2)] [] M r M' := by
  refine Ev.run 2 fd_e11 (i' := 7) (ls' := [fx_f 0, .inl (x1), .inl (x2)]) (st' := [.inl ((-12)), .inl (x2)]) (M1 := M) rfl ?_
  refine Ev.icT fd_e11 rfl g (by decide) (decide_eq_true h) ?_
  exact k
theorem r11_5F {X : fx_Sc} {M M' : fx_M} {r : Option fx_V} {x1 x2 : Int} (g : (-2147483648 ≤ x2 ∧ x2 < 2147483648)) (h : (-12) < x2) (k : Ev X 11 8 [fx_f 0, .inl (x1), .inl (x2)] [] M r M') : Ev X 11 5 [fx_f 0, .inl (x1), .inl (x2)] [] M r M' := by
  refine Ev.run 2 fd_e11 (i' := 7) (ls' := [fx_f 0, .inl (x1), .inl (x2)]) (st' := [.inl ((-12)), .inl (x2)]) (M1 := M) rfl ?_
  refine Ev.icF fd_e11 rfl g (by decide) (decide_eq_false (Int.not_le.mpr h)) ?_
  exact k
theorem r11_8T {X : fx_Sc} {M M' : fx_M} {r : Option fx_V} {x1 x2 : Int} (g : (-2147483648 ≤ x2 ∧ x2 < 2147483648)) (h : 12 ≤ x2) (k : Ev X 11 13 [fx_f 0, .inl (x1), .inl (x2)] [] M r M') : Ev X 11 8 [fx_f 0, .inl (x1), .inl (x2)] [] M r M' := by
  refine Ev.run 2 fd_e11 (i' := 10) (ls' := [fx_f 0, .inl (x1), .inl (x2)]) (st' := [.inl (12), .inl (x2)]) (M1 := M) rfl ?_
  refine Ev.icT fd_e11 rfl g (by decide) (decide_eq_true h) ?_
  exact k
theorem r11_8F {X : fx_Sc} {M M' : fx_M} {r : Option fx_V} {x1 x2 : Int} (g : (-2147483648 ≤ x2 ∧ x2 < 2147483648)) (h : x2 < 12) (k : Ev X 11 11 [fx_f 0, .inl (x1), .inl (x2)] [] M r M') : Ev X 11 8 [fx_f 0, .inl (x1), .inl (x2)] [] M r M' := by
  refine Ev.run 2 fd_e11 (i' := 10) (ls' := [fx_f 0, .inl (x1), .inl (x2)]) (st' := [.inl (12), .inl (x2)]) (M1 := M) rfl ?_
  refine Ev.icF fd_e11 rfl g (by decide) (decide_eq_false (Int.not_le.mpr h)) ?_
  exact k
theorem r11_11T {X : fx_Sc} {M M' : fx_M} {r : Option fx_V} {x1 x2 : Int} (g : (-2147483648 ≤ x2 ∧ x2 < 2147483648)) (h : x2 ≠ 0) (k : Ev X 11 15 [fx_f 0, .inl (x1), .inl (x2)] [] M r M') : Ev X 11 11 [fx_f 0, .inl (x1), .inl (x2)] [] M r M' := by
  refine Ev.run 1 fd_e11 (i' := 12) (ls' := [fx_f 0, .inl (x1), .inl (x2)]) (st' := [.inl (x2)]) (M1 := M) rfl ?_
  refine Ev.ifT fd_e11 rfl g (decide_eq_true h) ?_
  exact k
theorem r11_11F {X : fx_Sc} {M M' : fx_M} {r : Option fx_V} {x1 x2 : Int} (g : (-2147483648 ≤ x2 ∧ x2 < 2147483648)) (h : x2 = 0) (k : Ev X 11 13 [fx_f 0, .inl (x1), .inl (x2)] [] M r M') : Ev X 11 11 [fx_f 0, .inl (x1), .inl (x2)] [] M r M' := by
  refine Ev.run 1 fd_e11 (i' := 12) (ls' := [fx_f 0, .inl (x1), .inl (x2)]) (st' := [.inl (x2)]) (M1 := M) rfl ?_
  refine Ev.ifF fd_e11 rfl g (decide_eq_false (not_not_intro h)) ?_
  exact k
theorem r11_13 {X : fx_Sc} {M : fx_M} {x1 x2 : Int} : Ev X 11 13 [fx_f 0, .inl (x1), .inl (x2)] [] M (some (.inl ((-2)))) M := by
  refine Ev.run 1 fd_e11 (i' := 14) (ls' := [fx_f 0, .inl (x1), .inl (x2)]) (st' := [.inl ((-2))]) (M1 := M) rfl ?_
  exact Ev.ret1 fd_e11 rfl rfl
theorem r11_15 {X : fx_Sc} {M M' : fx_M} {r : Option fx_V} {x1 x2 z : Int} {M1 : fx_M} (hc : Ev X 86 0 [fx_f 1, .inl (x1), .inl (x2), fx_u, fx_u, fx_u] [] M (some (.inl z)) M1) (k : Ev X 11 20 [fx_f 0, .inl (x1), .inl (x2)] [.inl (z)] M1 r M') : Ev X 11 15 [fx_f 0, .inl (x1), .inl (x2)] [] M r M' := by
  refine Ev.run 4 fd_e11 (i' := 19) (ls' := [fx_f 0, .inl (x1), .inl (x2)]) (st' := [.inl (x2), .inl (x1), fx_f 1]) (M1 := M) rfl ?_
  refine Ev.callV (vs := [fx_f 1, .inl (x1), .inl (x2)]) (rest := []) (r1 := (some (.inl z))) fd_e11 rfl rfl rfl (Nat.le_of_ble_eq_true rfl) (Nat.le_of_ble_eq_true rfl) (fd_rcvS fd_is1) hc ?_
  exact k
theorem r11_20T {X : fx_Sc} {M M' : fx_M} {r : Option fx_V} {x1 x2 s0 : Int} (g : (-2147483648 ≤ s0 ∧ s0 < 2147483648)) (h : s0 ≠ 0) (k : Ev X 11 23 [fx_f 0, .inl (x1), .inl (x2)] [] M r M') : Ev X 11 20 [fx_f 0, .inl (x1), .inl (x2)] [.inl (s0)] M r M' := by
  refine Ev.ifT fd_e11 rfl g (decide_eq_true h) ?_
  exact k
theorem r11_20F {X : fx_Sc} {M M' : fx_M} {r : Option fx_V} {x1 x2 s0 : Int} (g : (-2147483648 ≤ s0 ∧ s0 < 2147483648)) (h : s0 = 0) (k : Ev X 11 21 [fx_f 0, .inl (x1), .inl (x2)] [] M r M') : Ev X 11 20 [fx_f 0, .inl (x1), .inl (x2)] [.inl (s0)] M r M' := by
  refine Ev.ifF fd_e11 rfl g (decide_eq_false (not_not_intro h)) ?_
  exact k
theorem r11_21 {X : fx_Sc} {M : fx_M} {x1 x2 : Int} : Ev X 11 21 [fx_f 0, .inl (x1), .inl (x2)] [] M (some (.inl ((-5)))) M := by
  refine Ev.run 1 fd_e11 (i' := 22) (ls' := [fx_f 0, .inl (x1), .inl (x2)]) (st' := [.inl ((-5))]) (M1 := M) rfl ?_
  exact Ev.ret1 fd_e11 rfl rfl
theorem r11_23 {X : fx_Sc} {M M' : fx_M} {r : Option fx_V} {x1 x2 : Int} {M1 : fx_M} (hc : Ev X 38 0 [fx_f 19, fx_f 1, fx_u] [] M none M1) (k : Ev X 11 28 [fx_f 0, .inl (x1), .inl (x2)] [] M1 r M') : Ev X 11 23 [fx_f 0, .inl (x1), .inl (x2)] [] M r M' := by
  refine Ev.run 4 fd_e11 (i' := 27) (ls' := [fx_f 0, .inl (x1), .inl (x2)]) (st' := [fx_f 1, fx_f 19]) (M1 := M) rfl ?_
  refine Ev.callV (vs := [fx_f 19, fx_f 1]) (rest := []) (r1 := none) fd_e11 rfl rfl rfl (Nat.le_of_ble_eq_true rfl) (Nat.le_of_ble_eq_true rfl) rfl hc ?_
  exact k
theorem r11_28 {X : fx_Sc} {M M' : fx_M} {r : Option fx_V} {x1 x2 : Int} {M1 : fx_M} (hc : Ev X 87 0 [fx_f 1, .inl (x1), .inl (x2), fx_u] [] M none M1) (k : Ev X 11 33 [fx_f 0, .inl (x1), .inl (x2)] [] M1 r M') : Ev X 11 28 [fx_f 0, .inl (x1), .inl (x2)] [] M r M' := by
  refine Ev.run 4 fd_e11 (i' := 32) (ls' := [fx_f 0, .inl (x1), .inl (x2)]) (st' := [.inl (x2), .inl (x1), fx_f 1]) (M1 := M) rfl ?_
  refine Ev.callV (vs := [fx_f 1, .inl (x1), .inl (x2)]) (rest := []) (r1 := none) fd_e11 rfl rfl rfl (Nat.le_of_ble_eq_true rfl) (Nat.le_of_ble_eq_true rfl) (fd_rcvS fd_is1) hc ?_
  exact k
theorem r11_33 {X : fx_Sc} {M M' : fx_M} {r : Option fx_V} {x1 x2 z : Int} {M1 : fx_M} (hc : Ev X 89 0 [fx_f 1, fx_u, fx_u] [] M (some (.inl z)) M1) (k : Ev X 11 36 [fx_f 0, .inl (x1), .inl (x2)] [.inl (z)] M1 r M') : Ev X 11 33 [fx_f 0, .inl (x1), .inl (x2)] [] M r M' := by
  refine Ev.run 2 fd_e11 (i' := 35) (ls' := [fx_f 0, .inl (x1), .inl (x2)]) (st' := [fx_f 1]) (M1 := M) rfl ?_
  refine Ev.callV (vs := [fx_f 1]) (rest := []) (r1 := (some (.inl z))) fd_e11 rfl rfl rfl (Nat.le_of_ble_eq_true rfl) (Nat.le_of_ble_eq_true rfl) (fd_rcvS fd_is1) hc ?_
  exact k
theorem r11_36 {X : fx_Sc} {M : fx_M} {x1 x2 s0 : Int} : Ev X 11 36 [fx_f 0, .inl (x1), .inl (x2)] [.inl (s0)] M (some (.inl (s0))) M := by
  exact Ev.ret1 fd_e11 rfl rfl
-- 12: FoldedStrips.turn(II)I
theorem fd_e12 : fd_C 12 = fd_c12 := rfl
theorem r12_0 {X : fx_Sc} {M M' : fx_M} {r : Option fx_V} {x1 x2 z : Int} {M1 : fx_M} (hc : Ev X 1 0 [.inl (x1)] [] M (some (.inl z)) M1) (k : Ev X 12 2 [fx_f 0, .inl (x1), .inl (x2)] [.inl (z)] M1 r M') : Ev X 12 0 [fx_f 0, .inl (x1), .inl (x2)] [] M r M' := by
  refine Ev.run 1 fd_e12 (i' := 1) (ls' := [fx_f 0, .inl (x1), .inl (x2)]) (st' := [.inl (x1)]) (M1 := M) rfl ?_
  refine Ev.callS (vs := [.inl (x1)]) (rest := []) (r1 := (some (.inl z))) fd_e12 rfl rfl rfl (Nat.le_of_ble_eq_true rfl) (Nat.le_of_ble_eq_true rfl) hc ?_
  exact k
theorem r12_2T {X : fx_Sc} {M M' : fx_M} {r : Option fx_V} {x1 x2 s0 : Int} (g : (-2147483648 ≤ s0 ∧ s0 < 2147483648)) (h : s0 ≠ 0) (k : Ev X 12 5 [fx_f 0, .inl (x1), .inl (x2)] [] M r M') : Ev X 12 2 [fx_f 0, .inl (x1), .inl (x2)] [.inl (s0)] M r M' := by
  refine Ev.ifT fd_e12 rfl g (decide_eq_true h) ?_
  exact k
theorem r12_2F {X : fx_Sc} {M M' : fx_M} {r : Option fx_V} {x1 x2 s0 : Int} (g : (-2147483648 ≤ s0 ∧ s0 < 2147483648)) (h : s0 = 0) (k : Ev X 12 3 [fx_f 0, .inl (x1), .inl (x2)] [] M r M') : Ev X 12 2 [fx_f 0, .inl (x1), .inl (x2)] [.inl (s0)] M r M' := by
  refine Ev.ifF fd_e12 rfl g (decide_eq_false (not_not_intro h)) ?_
  exact k
theorem r12_3 {X : fx_Sc} {M : fx_M} {x1 x2 : Int} : Ev X 12 3 [fx_f 0, .inl (x1), .inl (x2)] [] M (some (.inl ((-1)))) M := by
  refine Ev.run 1 fd_e12 (i' := 4) (ls' := [fx_f 0, .inl (x1), .inl (x2)]) (st' := [.inl ((-1))]) (M1 := M) rfl ?_
  exact Ev.ret1 fd_e12 rfl rfl
theorem r12_5 {X : fx_Sc} {M M' : fx_M} {r : Option fx_V} {x1 x2 z : Int} {M1 : fx_M} (hc : Ev X 13 0 [.inl (x2)] [] M (some (.inl z)) M1) (k : Ev X 12 7 [fx_f 0, .inl (x1), .inl (x2)] [.inl (z)] M1 r M') : Ev X 12 5 [fx_f 0, .inl (x1), .inl (x2)] [] M r M' := by
  refine Ev.run 1 fd_e12 (i' := 6) (ls' := [fx_f 0, .inl (x1), .inl (x2)]) (st' := [.inl (x2)]) (M1 := M) rfl ?_
  refine Ev.callS (vs := [.inl (x2)]) (rest := []) (r1 := (some (.inl z))) fd_e12 rfl rfl rfl (Nat.le_of_ble_eq_true rfl) (Nat.le_of_ble_eq_true rfl) hc ?_
  exact k
theorem r12_7T {X : fx_Sc} {M M' : fx_M} {r : Option fx_V} {x1 x2 s0 : Int} (g : (-2147483648 ≤ s0 ∧ s0 < 2147483648)) (h : s0 ≠ 0) (k : Ev X 12 10 [fx_f 0, .inl (x1), .inl (x2)] [] M r M') : Ev X 12 7 [fx_f 0, .inl (x1), .inl (x2)] [.inl (s0)] M r M' := by
  refine Ev.ifT fd_e12 rfl g (decide_eq_true h) ?_
  exact k
theorem r12_7F {X : fx_Sc} {M M' : fx_M} {r : Option fx_V} {x1 x2 s0 : Int} (g : (-2147483648 ≤ s0 ∧ s0 < 2147483648)) (h : s0 = 0) (k : Ev X 12 8 [fx_f 0, .inl (x1), .inl (x2)] [] M r M') : Ev X 12 7 [fx_f 0, .inl (x1), .inl (x2)] [.inl (s0)] M r M' := by
  refine Ev.ifF fd_e12 rfl g (decide_eq_false (not_not_intro h)) ?_
  exact k
theorem r12_8 {X : fx_Sc} {M : fx_M} {x1 x2 : Int} : Ev X 12 8 [fx_f 0, .inl (x1), .inl (x2)] [] M (some (.inl ((-2)))) M := by
  refine Ev.run 1 fd_e12 (i' := 9) (ls' := [fx_f 0, .inl (x1), .inl (x2)]) (st' := [.inl ((-2))]) (M1 := M) rfl ?_
  exact Ev.ret1 fd_e12 rfl rfl
theorem r12_10 {X : fx_Sc} {M M' : fx_M} {r : Option fx_V} {x1 x2 : Int} {M1 : fx_M} (hc : Ev X 38 0 [fx_f 19, fx_f 1, fx_u] [] M none M1) (k : Ev X 12 15 [fx_f 0, .inl (x1), .inl (x2)] [] M1 r M') : Ev X 12 10 [fx_f 0, .inl (x1), .inl (x2)] [] M r M' := by
  refine Ev.run 4 fd_e12 (i' := 14) (ls' := [fx_f 0, .inl (x1), .inl (x2)]) (st' := [fx_f 1, fx_f 19]) (M1 := M) rfl ?_
  refine Ev.callV (vs := [fx_f 19, fx_f 1]) (rest := []) (r1 := none) fd_e12 rfl rfl rfl (Nat.le_of_ble_eq_true rfl) (Nat.le_of_ble_eq_true rfl) rfl hc ?_
  exact k
theorem r12_15 {X : fx_Sc} {M M' : fx_M} {r : Option fx_V} {x1 x2 : Int} {M1 : fx_M} (hc : Ev X 92 0 [fx_f 1, .inl (x1), .inl (x2), fx_u] [] M none M1) (k : Ev X 12 20 [fx_f 0, .inl (x1), .inl (x2)] [] M1 r M') : Ev X 12 15 [fx_f 0, .inl (x1), .inl (x2)] [] M r M' := by
  refine Ev.run 4 fd_e12 (i' := 19) (ls' := [fx_f 0, .inl (x1), .inl (x2)]) (st' := [.inl (x2), .inl (x1), fx_f 1]) (M1 := M) rfl ?_
  refine Ev.callV (vs := [fx_f 1, .inl (x1), .inl (x2)]) (rest := []) (r1 := none) fd_e12 rfl rfl rfl (Nat.le_of_ble_eq_true rfl) (Nat.le_of_ble_eq_true rfl) (fd_rcvS fd_is1) hc ?_
  exact k
theorem r12_20 {X : fx_Sc} {M M' : fx_M} {r : Option fx_V} {x1 x2 z : Int} {M1 : fx_M} (hc : Ev X 89 0 [fx_f 1, fx_u, fx_u] [] M (some (.inl z)) M1) (k : Ev X 12 23 [fx_f 0, .inl (x1), .inl (x2)] [.inl (z)] M1 r M') : Ev X 12 20 [fx_f 0, .inl (x1), .inl (x2)] [] M r M' := by
  refine Ev.run 2 fd_e12 (i' := 22) (ls' := [fx_f 0, .inl (x1), .inl (x2)]) (st' := [fx_f 1]) (M1 := M) rfl ?_
  refine Ev.callV (vs := [fx_f 1]) (rest := []) (r1 := (some (.inl z))) fd_e12 rfl rfl rfl (Nat.le_of_ble_eq_true rfl) (Nat.le_of_ble_eq_true rfl) (fd_rcvS fd_is1) hc ?_
  exact k
theorem r12_23 {X : fx_Sc} {M : fx_M} {x1 x2 s0 : Int} : Ev X 12 23 [fx_f 0, .inl (x1), .inl (x2)] [.inl (s0)] M (some (.inl (s0))) M := by
  exact Ev.ret1 fd_e12 rfl rfl
-- 13: FoldedStrips.isTurn(I)Z
theorem fd_e13 : fd_C 13 = fd_c13 := rfl
theorem r13_0T {X : fx_Sc} {M M' : fx_M} {r : Option fx_V} {x0 : Int} (g : (-2147483648 ≤ x0 ∧ x0 < 2147483648)) (h : x0 = 0) (k : Ev X 13 8 [.inl (x0)] [] M r M') : Ev X 13 0 [.inl (x0)] [] M r M' := by
  refine Ev.run 1 fd_e13 (i' := 1) (ls' := [.inl (x0)]) (st' := [.inl (x0)]) (M1 := M) rfl ?_
  refine Ev.ifT fd_e13 rfl g (decide_eq_true h) ?_
  exact k
theorem r13_0F {X : fx_Sc} {M M' : fx_M} {r : Option fx_V} {x0 : Int} (g : (-2147483648 ≤ x0 ∧ x0 < 2147483648)) (h : x0 ≠ 0) (k : Ev X 13 2 [.inl (x0)] [] M r M') : Ev X 13 0 [.inl (x0)] [] M r M' := by
  refine Ev.run 1 fd_e13 (i' := 1) (ls' := [.inl (x0)]) (st' := [.inl (x0)]) (M1 := M) rfl ?_
  refine Ev.ifF fd_e13 rfl g (decide_eq_false h) ?_
  exact k
theorem r13_2T {X : fx_Sc} {M M' : fx_M} {r : Option fx_V} {x0 : Int} (g : (-2147483648 ≤ x0 ∧ x0 < 2147483648)) (h : x0 = 1) (k : Ev X 13 8 [.inl (x0)] [] M r M') : Ev X 13 2 [.inl (x0)] [] M r M' := by
  refine Ev.run 2 fd_e13 (i' := 4) (ls' := [.inl (x0)]) (st' := [.inl (1), .inl (x0)]) (M1 := M) rfl ?_
  refine Ev.icT fd_e13 rfl g (by decide) (decide_eq_true h) ?_
  exact k
theorem r13_2F {X : fx_Sc} {M M' : fx_M} {r : Option fx_V} {x0 : Int} (g : (-2147483648 ≤ x0 ∧ x0 < 2147483648)) (h : x0 ≠ 1) (k : Ev X 13 5 [.inl (x0)] [] M r M') : Ev X 13 2 [.inl (x0)] [] M r M' := by
  refine Ev.run 2 fd_e13 (i' := 4) (ls' := [.inl (x0)]) (st' := [.inl (1), .inl (x0)]) (M1 := M) rfl ?_
  refine Ev.icF fd_e13 rfl g (by decide) (decide_eq_false h) ?_
  exact k
theorem r13_5T {X : fx_Sc} {M M' : fx_M} {r : Option fx_V} {x0 : Int} (g : (-2147483648 ≤ x0 ∧ x0 < 2147483648)) (h : x0 ≠ 2) (k : Ev X 13 10 [.inl (x0)] [] M r M') : Ev X 13 5 [.inl (x0)] [] M r M' := by
  refine Ev.run 2 fd_e13 (i' := 7) (ls' := [.inl (x0)]) (st' := [.inl (2), .inl (x0)]) (M1 := M) rfl ?_
  refine Ev.icT fd_e13 rfl g (by decide) (decide_eq_true h) ?_
  exact k
theorem r13_5F {X : fx_Sc} {M M' : fx_M} {r : Option fx_V} {x0 : Int} (g : (-2147483648 ≤ x0 ∧ x0 < 2147483648)) (h : x0 = 2) (k : Ev X 13 8 [.inl (x0)] [] M r M') : Ev X 13 5 [.inl (x0)] [] M r M' := by
  refine Ev.run 2 fd_e13 (i' := 7) (ls' := [.inl (x0)]) (st' := [.inl (2), .inl (x0)]) (M1 := M) rfl ?_
  refine Ev.icF fd_e13 rfl g (by decide) (decide_eq_false (not_not_intro h)) ?_
  exact k
theorem r13_8 {X : fx_Sc} {M : fx_M} {x0 : Int} : Ev X 13 8 [.inl (x0)] [] M (some (.inl (1))) M := by
  refine Ev.run 2 fd_e13 (i' := 11) (ls' := [.inl (x0)]) (st' := [.inl (1)]) (M1 := M) rfl ?_
  exact Ev.ret2 fd_e13 rfl rfl (by decide)
theorem r13_10 {X : fx_Sc} {M : fx_M} {x0 : Int} : Ev X 13 10 [.inl (x0)] [] M (some (.inl (0))) M := by
  refine Ev.run 1 fd_e13 (i' := 11) (ls' := [.inl (x0)]) (st' := [.inl (0)]) (M1 := M) rfl ?_
  exact Ev.ret2 fd_e13 rfl rfl (by decide)
-- 14: FoldedStrips.exchange(II)I
theorem fd_e14 : fd_C 14 = fd_c14 := rfl
theorem r14_0 {X : fx_Sc} {M M' : fx_M} {r : Option fx_V} {x1 x2 z : Int} {M1 : fx_M} (hc : Ev X 1 0 [.inl (x1)] [] M (some (.inl z)) M1) (k : Ev X 14 2 [fx_f 0, .inl (x1), .inl (x2)] [.inl (z)] M1 r M') : Ev X 14 0 [fx_f 0, .inl (x1), .inl (x2)] [] M r M' := by
  refine Ev.run 1 fd_e14 (i' := 1) (ls' := [fx_f 0, .inl (x1), .inl (x2)]) (st' := [.inl (x1)]) (M1 := M) rfl ?_
  refine Ev.callS (vs := [.inl (x1)]) (rest := []) (r1 := (some (.inl z))) fd_e14 rfl rfl rfl (Nat.le_of_ble_eq_true rfl) (Nat.le_of_ble_eq_true rfl) hc ?_
  exact k
theorem r14_2T {X : fx_Sc} {M M' : fx_M} {r : Option fx_V} {x1 x2 s0 : Int} (g : (-2147483648 ≤ s0 ∧ s0 < 2147483648)) (h : s0 = 0) (k : Ev X 14 6 [fx_f 0, .inl (x1), .inl (x2)] [] M r M') : Ev X 14 2 [fx_f 0, .inl (x1), .inl (x2)] [.inl (s0)] M r M' := by
  refine Ev.ifT fd_e14 rfl g (decide_eq_true h) ?_
  exact k
theorem r14_2F {X : fx_Sc} {M M' : fx_M} {r : Option fx_V} {x1 x2 s0 : Int} (g : (-2147483648 ≤ s0 ∧ s0 < 2147483648)) (h : s0 ≠ 0) (k : Ev X 14 3 [fx_f 0, .inl (x1), .inl (x2)] [] M r M') : Ev X 14 2 [fx_f 0, .inl (x1), .inl (x2)] [.inl (s0)] M r M' := by
  refine Ev.ifF fd_e14 rfl g (decide_eq_false h) ?_
  exact k
theorem r14_3 {X : fx_Sc} {M M' : fx_M} {r : Option fx_V} {x1 x2 z : Int} {M1 : fx_M} (hc : Ev X 1 0 [.inl (x2)] [] M (some (.inl z)) M1) (k : Ev X 14 5 [fx_f 0, .inl (x1), .inl (x2)] [.inl (z)] M1 r M') : Ev X 14 3 [fx_f 0, .inl (x1), .inl (x2)] [] M r M' := by
  refine Ev.run 1 fd_e14 (i' := 4) (ls' := [fx_f 0, .inl (x1), .inl (x2)]) (st' := [.inl (x2)]) (M1 := M) rfl ?_
  refine Ev.callS (vs := [.inl (x2)]) (rest := []) (r1 := (some (.inl z))) fd_e14 rfl rfl rfl (Nat.le_of_ble_eq_true rfl) (Nat.le_of_ble_eq_true rfl) hc ?_
  exact k
theorem r14_5T {X : fx_Sc} {M M' : fx_M} {r : Option fx_V} {x1 x2 s0 : Int} (g : (-2147483648 ≤ s0 ∧ s0 < 2147483648)) (h : s0 ≠ 0) (k : Ev X 14 8 [fx_f 0, .inl (x1), .inl (x2)] [] M r M') : Ev X 14 5 [fx_f 0, .inl (x1), .inl (x2)] [.inl (s0)] M r M' := by
  refine Ev.ifT fd_e14 rfl g (decide_eq_true h) ?_
  exact k
theorem r14_5F {X : fx_Sc} {M M' : fx_M} {r : Option fx_V} {x1 x2 s0 : Int} (g : (-2147483648 ≤ s0 ∧ s0 < 2147483648)) (h : s0 = 0) (k : Ev X 14 6 [fx_f 0, .inl (x1), .inl (x2)] [] M r M') : Ev X 14 5 [fx_f 0, .inl (x1), .inl (x2)] [.inl (s0)] M r M' := by
  refine Ev.ifF fd_e14 rfl g (decide_eq_false (not_not_intro h)) ?_
  exact k
theorem r14_6 {X : fx_Sc} {M : fx_M} {x1 x2 : Int} : Ev X 14 6 [fx_f 0, .inl (x1), .inl (x2)] [] M (some (.inl ((-1)))) M := by
  refine Ev.run 1 fd_e14 (i' := 7) (ls' := [fx_f 0, .inl (x1), .inl (x2)]) (st' := [.inl ((-1))]) (M1 := M) rfl ?_
  exact Ev.ret1 fd_e14 rfl rfl
theorem r14_8T {X : fx_Sc} {M M' : fx_M} {r : Option fx_V} {x1 x2 : Int} (g : (-2147483648 ≤ x1 ∧ x1 < 2147483648) ∧ (-2147483648 ≤ x2 ∧ x2 < 2147483648)) (h : x1 ≠ x2) (k : Ev X 14 13 [fx_f 0, .inl (x1), .inl (x2)] [] M r M') : Ev X 14 8 [fx_f 0, .inl (x1), .inl (x2)] [] M r M' := by
  refine Ev.run 2 fd_e14 (i' := 10) (ls' := [fx_f 0, .inl (x1), .inl (x2)]) (st' := [.inl (x2), .inl (x1)]) (M1 := M) rfl ?_
  refine Ev.icT fd_e14 rfl g.1 g.2 (decide_eq_true h) ?_
  exact k
theorem r14_8F {X : fx_Sc} {M M' : fx_M} {r : Option fx_V} {x1 x2 : Int} (g : (-2147483648 ≤ x1 ∧ x1 < 2147483648) ∧ (-2147483648 ≤ x2 ∧ x2 < 2147483648)) (h : x1 = x2) (k : Ev X 14 11 [fx_f 0, .inl (x1), .inl (x2)] [] M r M') : Ev X 14 8 [fx_f 0, .inl (x1), .inl (x2)] [] M r M' := by
  refine Ev.run 2 fd_e14 (i' := 10) (ls' := [fx_f 0, .inl (x1), .inl (x2)]) (st' := [.inl (x2), .inl (x1)]) (M1 := M) rfl ?_
  refine Ev.icF fd_e14 rfl g.1 g.2 (decide_eq_false (not_not_intro h)) ?_
  exact k
theorem r14_11 {X : fx_Sc} {M : fx_M} {x1 x2 : Int} : Ev X 14 11 [fx_f 0, .inl (x1), .inl (x2)] [] M (some (.inl ((-5)))) M := by
  refine Ev.run 1 fd_e14 (i' := 12) (ls' := [fx_f 0, .inl (x1), .inl (x2)]) (st' := [.inl ((-5))]) (M1 := M) rfl ?_
  exact Ev.ret1 fd_e14 rfl rfl
theorem r14_13 {X : fx_Sc} {M M' : fx_M} {r : Option fx_V} {x1 x2 : Int} {M1 : fx_M} (hc : Ev X 38 0 [fx_f 19, fx_f 1, fx_u] [] M none M1) (k : Ev X 14 18 [fx_f 0, .inl (x1), .inl (x2)] [] M1 r M') : Ev X 14 13 [fx_f 0, .inl (x1), .inl (x2)] [] M r M' := by
  refine Ev.run 4 fd_e14 (i' := 17) (ls' := [fx_f 0, .inl (x1), .inl (x2)]) (st' := [fx_f 1, fx_f 19]) (M1 := M) rfl ?_
  refine Ev.callV (vs := [fx_f 19, fx_f 1]) (rest := []) (r1 := none) fd_e14 rfl rfl rfl (Nat.le_of_ble_eq_true rfl) (Nat.le_of_ble_eq_true rfl) rfl hc ?_
  exact k
theorem r14_18 {X : fx_Sc} {M M' : fx_M} {r : Option fx_V} {x1 x2 : Int} {M1 : fx_M} (hc : Ev X 94 0 [fx_f 1, .inl (x1), .inl (x2), fx_u, fx_u] [] M none M1) (k : Ev X 14 23 [fx_f 0, .inl (x1), .inl (x2)] [] M1 r M') : Ev X 14 18 [fx_f 0, .inl (x1), .inl (x2)] [] M r M' := by
  refine Ev.run 4 fd_e14 (i' := 22) (ls' := [fx_f 0, .inl (x1), .inl (x2)]) (st' := [.inl (x2), .inl (x1), fx_f 1]) (M1 := M) rfl ?_
  refine Ev.callV (vs := [fx_f 1, .inl (x1), .inl (x2)]) (rest := []) (r1 := none) fd_e14 rfl rfl rfl (Nat.le_of_ble_eq_true rfl) (Nat.le_of_ble_eq_true rfl) (fd_rcvS fd_is1) hc ?_
  exact k
theorem r14_23 {X : fx_Sc} {M M' : fx_M} {r : Option fx_V} {x1 x2 z : Int} {M1 : fx_M} (hc : Ev X 89 0 [fx_f 1, fx_u, fx_u] [] M (some (.inl z)) M1) (k : Ev X 14 26 [fx_f 0, .inl (x1), .inl (x2)] [.inl (z)] M1 r M') : Ev X 14 23 [fx_f 0, .inl (x1), .inl (x2)] [] M r M' := by
  refine Ev.run 2 fd_e14 (i' := 25) (ls' := [fx_f 0, .inl (x1), .inl (x2)]) (st' := [fx_f 1]) (M1 := M) rfl ?_
  refine Ev.callV (vs := [fx_f 1]) (rest := []) (r1 := (some (.inl z))) fd_e14 rfl rfl rfl (Nat.le_of_ble_eq_true rfl) (Nat.le_of_ble_eq_true rfl) (fd_rcvS fd_is1) hc ?_
  exact k
theorem r14_26 {X : fx_Sc} {M : fx_M} {x1 x2 s0 : Int} : Ev X 14 26 [fx_f 0, .inl (x1), .inl (x2)] [.inl (s0)] M (some (.inl (s0))) M := by
  exact Ev.ret1 fd_e14 rfl rfl
-- 15: FoldedStrips.takeUp(I)I
theorem fd_e15 : fd_C 15 = fd_c15 := rfl
theorem r15_0 {X : fx_Sc} {M M' : fx_M} {r : Option fx_V} {x1 z : Int} {M1 : fx_M} (hc : Ev X 1 0 [.inl (x1)] [] M (some (.inl z)) M1) (k : Ev X 15 2 [fx_f 0, .inl (x1)] [.inl (z)] M1 r M') : Ev X 15 0 [fx_f 0, .inl (x1)] [] M r M' := by
  refine Ev.run 1 fd_e15 (i' := 1) (ls' := [fx_f 0, .inl (x1)]) (st' := [.inl (x1)]) (M1 := M) rfl ?_
  refine Ev.callS (vs := [.inl (x1)]) (rest := []) (r1 := (some (.inl z))) fd_e15 rfl rfl rfl (Nat.le_of_ble_eq_true rfl) (Nat.le_of_ble_eq_true rfl) hc ?_
  exact k
theorem r15_2T {X : fx_Sc} {M M' : fx_M} {r : Option fx_V} {x1 s0 : Int} (g : (-2147483648 ≤ s0 ∧ s0 < 2147483648)) (h : s0 = 0) (k : Ev X 15 5 [fx_f 0, .inl (x1)] [] M r M') : Ev X 15 2 [fx_f 0, .inl (x1)] [.inl (s0)] M r M' := by
  refine Ev.ifT fd_e15 rfl g (decide_eq_true h) ?_
  exact k
theorem r15_2F {X : fx_Sc} {M M' : fx_M} {r : Option fx_V} {x1 s0 : Int} (g : (-2147483648 ≤ s0 ∧ s0 < 2147483648)) (h : s0 ≠ 0) (k : Ev X 15 3 [fx_f 0, .inl (x1)] [] M r M') : Ev X 15 2 [fx_f 0, .inl (x1)] [.inl (s0)] M r M' := by
  refine Ev.ifF fd_e15 rfl g (decide_eq_false h) ?_
  exact k
theorem r15_3T {X : fx_Sc} {M M' : fx_M} {r : Option fx_V} {x1 : Int} (g : (-2147483648 ≤ x1 ∧ x1 < 2147483648)) (h : x1 ≠ 0) (k : Ev X 15 7 [fx_f 0, .inl (x1)] [] M r M') : Ev X 15 3 [fx_f 0, .inl (x1)] [] M r M' := by
  refine Ev.run 1 fd_e15 (i' := 4) (ls' := [fx_f 0, .inl (x1)]) (st' := [.inl (x1)]) (M1 := M) rfl ?_
  refine Ev.ifT fd_e15 rfl g (decide_eq_true h) ?_
  exact k
theorem r15_3F {X : fx_Sc} {M M' : fx_M} {r : Option fx_V} {x1 : Int} (g : (-2147483648 ≤ x1 ∧ x1 < 2147483648)) (h : x1 = 0) (k : Ev X 15 5 [fx_f 0, .inl (x1)] [] M r M') : Ev X 15 3 [fx_f 0, .inl (x1)] [] M r M' := by
  refine Ev.run 1 fd_e15 (i' := 4) (ls' := [fx_f 0, .inl (x1)]) (st' := [.inl (x1)]) (M1 := M) rfl ?_
  refine Ev.ifF fd_e15 rfl g (decide_eq_false (not_not_intro h)) ?_
  exact k
theorem r15_5 {X : fx_Sc} {M : fx_M} {x1 : Int} : Ev X 15 5 [fx_f 0, .inl (x1)] [] M (some (.inl ((-1)))) M := by
  refine Ev.run 1 fd_e15 (i' := 6) (ls' := [fx_f 0, .inl (x1)]) (st' := [.inl ((-1))]) (M1 := M) rfl ?_
  exact Ev.ret1 fd_e15 rfl rfl
theorem r15_7 {X : fx_Sc} {M M' : fx_M} {r : Option fx_V} {x1 : Int} {M1 : fx_M} (hc : Ev X 38 0 [fx_f 19, fx_f 1, fx_u] [] M none M1) (k : Ev X 15 12 [fx_f 0, .inl (x1)] [] M1 r M') : Ev X 15 7 [fx_f 0, .inl (x1)] [] M r M' := by
  refine Ev.run 4 fd_e15 (i' := 11) (ls' := [fx_f 0, .inl (x1)]) (st' := [fx_f 1, fx_f 19]) (M1 := M) rfl ?_
  refine Ev.callV (vs := [fx_f 19, fx_f 1]) (rest := []) (r1 := none) fd_e15 rfl rfl rfl (Nat.le_of_ble_eq_true rfl) (Nat.le_of_ble_eq_true rfl) rfl hc ?_
  exact k
theorem r15_12 {X : fx_Sc} {M M' : fx_M} {r : Option fx_V} {x1 z : Int} {M1 : fx_M} (hc : Ev X 95 0 [fx_f 1, .inl (x1), fx_u, fx_u] [] M (some (.inl z)) M1) (k : Ev X 15 16 [fx_f 0, .inl (x1)] [.inl (z)] M1 r M') : Ev X 15 12 [fx_f 0, .inl (x1)] [] M r M' := by
  refine Ev.run 3 fd_e15 (i' := 15) (ls' := [fx_f 0, .inl (x1)]) (st' := [.inl (x1), fx_f 1]) (M1 := M) rfl ?_
  refine Ev.callV (vs := [fx_f 1, .inl (x1)]) (rest := []) (r1 := (some (.inl z))) fd_e15 rfl rfl rfl (Nat.le_of_ble_eq_true rfl) (Nat.le_of_ble_eq_true rfl) (fd_rcvS fd_is1) hc ?_
  exact k
theorem r15_16 {X : fx_Sc} {M : fx_M} {x1 s0 : Int} : Ev X 15 16 [fx_f 0, .inl (x1)] [.inl (s0)] M (some (.inl (s0))) M := by
  exact Ev.ret1 fd_e15 rfl rfl
-- 16: FoldedStrips.end(III)I
theorem fd_e16 : fd_C 16 = fd_c16 := rfl
theorem r16_0 {X : fx_Sc} {M M' : fx_M} {r : Option fx_V} {x1 x2 x3 z : Int} {M1 : fx_M} (hc : Ev X 1 0 [.inl (x1)] [] M (some (.inl z)) M1) (k : Ev X 16 2 [fx_f 0, .inl (x1), .inl (x2), .inl (x3), fx_u] [.inl (z)] M1 r M') : Ev X 16 0 [fx_f 0, .inl (x1), .inl (x2), .inl (x3), fx_u] [] M r M' := by
  refine Ev.run 1 fd_e16 (i' := 1) (ls' := [fx_f 0, .inl (x1), .inl (x2), .inl (x3), fx_u]) (st' := [.inl (x1)]) (M1 := M) rfl ?_
  refine Ev.callS (vs := [.inl (x1)]) (rest := []) (r1 := (some (.inl z))) fd_e16 rfl rfl rfl (Nat.le_of_ble_eq_true rfl) (Nat.le_of_ble_eq_true rfl) hc ?_
  exact k
theorem r16_2T {X : fx_Sc} {M M' : fx_M} {r : Option fx_V} {x1 x2 x3 s0 : Int} (g : (-2147483648 ≤ s0 ∧ s0 < 2147483648)) (h : s0 = 0) (k : Ev X 16 6 [fx_f 0, .inl (x1), .inl (x2), .inl (x3), fx_u] [] M r M') : Ev X 16 2 [fx_f 0, .inl (x1), .inl (x2), .inl (x3), fx_u] [.inl (s0)] M r M' := by
  refine Ev.ifT fd_e16 rfl g (decide_eq_true h) ?_
  exact k
theorem r16_2F {X : fx_Sc} {M M' : fx_M} {r : Option fx_V} {x1 x2 x3 s0 : Int} (g : (-2147483648 ≤ s0 ∧ s0 < 2147483648)) (h : s0 ≠ 0) (k : Ev X 16 3 [fx_f 0, .inl (x1), .inl (x2), .inl (x3), fx_u] [] M r M') : Ev X 16 2 [fx_f 0, .inl (x1), .inl (x2), .inl (x3), fx_u] [.inl (s0)] M r M' := by
  refine Ev.ifF fd_e16 rfl g (decide_eq_false h) ?_
  exact k
theorem r16_3 {X : fx_Sc} {M M' : fx_M} {r : Option fx_V} {x1 x2 x3 z : Int} {M1 : fx_M} (hc : Ev X 4 0 [.inl (x2)] [] M (some (.inl z)) M1) (k : Ev X 16 5 [fx_f 0, .inl (x1), .inl (x2), .inl (x3), fx_u] [.inl (z)] M1 r M') : Ev X 16 3 [fx_f 0, .inl (x1), .inl (x2), .inl (x3), fx_u] [] M r M' := by
  refine Ev.run 1 fd_e16 (i' := 4) (ls' := [fx_f 0, .inl (x1), .inl (x2), .inl (x3), fx_u]) (st' := [.inl (x2)]) (M1 := M) rfl ?_
  refine Ev.callS (vs := [.inl (x2)]) (rest := []) (r1 := (some (.inl z))) fd_e16 rfl rfl rfl (Nat.le_of_ble_eq_true rfl) (Nat.le_of_ble_eq_true rfl) hc ?_
  exact k
theorem r16_5T {X : fx_Sc} {M M' : fx_M} {r : Option fx_V} {x1 x2 x3 s0 : Int} (g : (-2147483648 ≤ s0 ∧ s0 < 2147483648)) (h : s0 ≠ 0) (k : Ev X 16 8 [fx_f 0, .inl (x1), .inl (x2), .inl (x3), fx_u] [] M r M') : Ev X 16 5 [fx_f 0, .inl (x1), .inl (x2), .inl (x3), fx_u] [.inl (s0)] M r M' := by
  refine Ev.ifT fd_e16 rfl g (decide_eq_true h) ?_
  exact k
theorem r16_5F {X : fx_Sc} {M M' : fx_M} {r : Option fx_V} {x1 x2 x3 s0 : Int} (g : (-2147483648 ≤ s0 ∧ s0 < 2147483648)) (h : s0 = 0) (k : Ev X 16 6 [fx_f 0, .inl (x1), .inl (x2), .inl (x3), fx_u] [] M r M') : Ev X 16 5 [fx_f 0, .inl (x1), .inl (x2), .inl (x3), fx_u] [.inl (s0)] M r M' := by
  refine Ev.ifF fd_e16 rfl g (decide_eq_false (not_not_intro h)) ?_
  exact k
theorem r16_6 {X : fx_Sc} {M : fx_M} {x1 x2 x3 : Int} : Ev X 16 6 [fx_f 0, .inl (x1), .inl (x2), .inl (x3), fx_u] [] M (some (.inl ((-1)))) M := by
  refine Ev.run 1 fd_e16 (i' := 7) (ls' := [fx_f 0, .inl (x1), .inl (x2), .inl (x3), fx_u]) (st' := [.inl ((-1))]) (M1 := M) rfl ?_
  exact Ev.ret1 fd_e16 rfl rfl
theorem r16_8T {X : fx_Sc} {M M' : fx_M} {r : Option fx_V} {x1 x2 x3 : Int} (g : (-2147483648 ≤ x3 ∧ x3 < 2147483648)) (h : x3 < 0) (k : Ev X 16 13 [fx_f 0, .inl (x1), .inl (x2), .inl (x3), fx_u] [] M r M') : Ev X 16 8 [fx_f 0, .inl (x1), .inl (x2), .inl (x3), fx_u] [] M r M' := by
  refine Ev.run 1 fd_e16 (i' := 9) (ls' := [fx_f 0, .inl (x1), .inl (x2), .inl (x3), fx_u]) (st' := [.inl (x3)]) (M1 := M) rfl ?_
  refine Ev.ifT fd_e16 rfl g (decide_eq_true h) ?_
  exact k
theorem r16_8F {X : fx_Sc} {M M' : fx_M} {r : Option fx_V} {x1 x2 x3 : Int} (g : (-2147483648 ≤ x3 ∧ x3 < 2147483648)) (h : 0 ≤ x3) (k : Ev X 16 10 [fx_f 0, .inl (x1), .inl (x2), .inl (x3), fx_u] [] M r M') : Ev X 16 8 [fx_f 0, .inl (x1), .inl (x2), .inl (x3), fx_u] [] M r M' := by
  refine Ev.run 1 fd_e16 (i' := 9) (ls' := [fx_f 0, .inl (x1), .inl (x2), .inl (x3), fx_u]) (st' := [.inl (x3)]) (M1 := M) rfl ?_
  refine Ev.ifF fd_e16 rfl g (decide_eq_false (Int.not_lt.mpr h)) ?_
  exact k
theorem r16_10T {X : fx_Sc} {M M' : fx_M} {r : Option fx_V} {x1 x2 x3 : Int} (g : (-2147483648 ≤ x3 ∧ x3 < 2147483648)) (h : x3 ≤ 3) (k : Ev X 16 15 [fx_f 0, .inl (x1), .inl (x2), .inl (x3), fx_u] [] M r M') : Ev X 16 10 [fx_f 0, .inl (x1), .inl (x2), .inl (x3), fx_u] [] M r M' := by
  refine Ev.run 2 fd_e16 (i' := 12) (ls' := [fx_f 0, .inl (x1), .inl (x2), .inl (x3), fx_u]) (st' := [.inl (3), .inl (x3)]) (M1 := M) rfl ?_
  refine Ev.icT fd_e16 rfl g (by decide) (decide_eq_true h) ?_
  exact k
theorem r16_10F {X : fx_Sc} {M M' : fx_M} {r : Option fx_V} {x1 x2 x3 : Int} (g : (-2147483648 ≤ x3 ∧ x3 < 2147483648)) (h : 3 < x3) (k : Ev X 16 13 [fx_f 0, .inl (x1), .inl (x2), .inl (x3), fx_u] [] M r M') : Ev X 16 10 [fx_f 0, .inl (x1), .inl (x2), .inl (x3), fx_u] [] M r M' := by
  refine Ev.run 2 fd_e16 (i' := 12) (ls' := [fx_f 0, .inl (x1), .inl (x2), .inl (x3), fx_u]) (st' := [.inl (3), .inl (x3)]) (M1 := M) rfl ?_
  refine Ev.icF fd_e16 rfl g (by decide) (decide_eq_false (Int.not_le.mpr h)) ?_
  exact k
theorem r16_13 {X : fx_Sc} {M : fx_M} {x1 x2 x3 : Int} : Ev X 16 13 [fx_f 0, .inl (x1), .inl (x2), .inl (x3), fx_u] [] M (some (.inl ((-2)))) M := by
  refine Ev.run 1 fd_e16 (i' := 14) (ls' := [fx_f 0, .inl (x1), .inl (x2), .inl (x3), fx_u]) (st' := [.inl ((-2))]) (M1 := M) rfl ?_
  exact Ev.ret1 fd_e16 rfl rfl
theorem r16_15 {X : fx_Sc} {M M' : fx_M} {r : Option fx_V} {x1 x2 x3 z : Int} {M1 : fx_M} (hc : Ev X 3 0 [.inl (x1), .inl (x2)] [] M (some (.inl z)) M1) (k : Ev X 16 18 [fx_f 0, .inl (x1), .inl (x2), .inl (x3), fx_u] [.inl (z)] M1 r M') : Ev X 16 15 [fx_f 0, .inl (x1), .inl (x2), .inl (x3), fx_u] [] M r M' := by
  refine Ev.run 2 fd_e16 (i' := 17) (ls' := [fx_f 0, .inl (x1), .inl (x2), .inl (x3), fx_u]) (st' := [.inl (x2), .inl (x1)]) (M1 := M) rfl ?_
  refine Ev.callS (vs := [.inl (x1), .inl (x2)]) (rest := []) (r1 := (some (.inl z))) fd_e16 rfl rfl rfl (Nat.le_of_ble_eq_true rfl) (Nat.le_of_ble_eq_true rfl) hc ?_
  exact k
theorem r16_18T {X : fx_Sc} {M M' : fx_M} {r : Option fx_V} {x1 x2 x3 s0 : Int} (g : (-2147483648 ≤ x3 ∧ x3 < 2147483648)) (h : x3 ≠ 1) (k : Ev X 16 27 [fx_f 0, .inl (x1), .inl (x2), .inl (x3), .inl (s0)] [] M r M') : Ev X 16 18 [fx_f 0, .inl (x1), .inl (x2), .inl (x3), fx_u] [.inl (s0)] M r M' := by
  refine Ev.run 3 fd_e16 (i' := 21) (ls' := [fx_f 0, .inl (x1), .inl (x2), .inl (x3), .inl (s0)]) (st' := [.inl (1), .inl (x3)]) (M1 := M) rfl ?_
  refine Ev.icT fd_e16 rfl g (by decide) (decide_eq_true h) ?_
  exact k
theorem r16_18F {X : fx_Sc} {M M' : fx_M} {r : Option fx_V} {x1 x2 x3 s0 : Int} (g : (-2147483648 ≤ x3 ∧ x3 < 2147483648)) (h : x3 = 1) (k : Ev X 16 22 [fx_f 0, .inl (x1), .inl (x2), .inl (x3), .inl (s0)] [] M r M') : Ev X 16 18 [fx_f 0, .inl (x1), .inl (x2), .inl (x3), fx_u] [.inl (s0)] M r M' := by
  refine Ev.run 3 fd_e16 (i' := 21) (ls' := [fx_f 0, .inl (x1), .inl (x2), .inl (x3), .inl (s0)]) (st' := [.inl (1), .inl (x3)]) (M1 := M) rfl ?_
  refine Ev.icF fd_e16 rfl g (by decide) (decide_eq_false (not_not_intro h)) ?_
  exact k
theorem r16_22 {X : fx_Sc} {M M' : fx_M} {r : Option fx_V} {x1 x2 x3 x4 z : Int} {M1 : fx_M} (hc : Ev X 97 0 [fx_f 1, .inl (x4), fx_u] [] M (some (.inl z)) M1) (k : Ev X 16 26 [fx_f 0, .inl (x1), .inl (x2), .inl (x3), .inl (x4)] [.inl (z)] M1 r M') : Ev X 16 22 [fx_f 0, .inl (x1), .inl (x2), .inl (x3), .inl (x4)] [] M r M' := by
  refine Ev.run 3 fd_e16 (i' := 25) (ls' := [fx_f 0, .inl (x1), .inl (x2), .inl (x3), .inl (x4)]) (st' := [.inl (x4), fx_f 1]) (M1 := M) rfl ?_
  refine Ev.callV (vs := [fx_f 1, .inl (x4)]) (rest := []) (r1 := (some (.inl z))) fd_e16 rfl rfl rfl (Nat.le_of_ble_eq_true rfl) (Nat.le_of_ble_eq_true rfl) (fd_rcvS fd_is1) hc ?_
  exact k
theorem r16_26 {X : fx_Sc} {M : fx_M} {x1 x2 x3 x4 s0 : Int} : Ev X 16 26 [fx_f 0, .inl (x1), .inl (x2), .inl (x3), .inl (x4)] [.inl (s0)] M (some (.inl (s0))) M := by
  exact Ev.ret1 fd_e16 rfl rfl
theorem r16_27 {X : fx_Sc} {M M' : fx_M} {r : Option fx_V} {x1 x2 x3 x4 z : Int} {M1 : fx_M} (hc : Ev X 83 0 [fx_f 1, .inl (x4)] [] M (some (.inl z)) M1) (k : Ev X 16 31 [fx_f 0, .inl (x1), .inl (x2), .inl (x3), .inl (x4)] [.inl (z)] M1 r M') : Ev X 16 27 [fx_f 0, .inl (x1), .inl (x2), .inl (x3), .inl (x4)] [] M r M' := by
  refine Ev.run 3 fd_e16 (i' := 30) (ls' := [fx_f 0, .inl (x1), .inl (x2), .inl (x3), .inl (x4)]) (st' := [.inl (x4), fx_f 1]) (M1 := M) rfl ?_
  refine Ev.callV (vs := [fx_f 1, .inl (x4)]) (rest := []) (r1 := (some (.inl z))) fd_e16 rfl rfl rfl (Nat.le_of_ble_eq_true rfl) (Nat.le_of_ble_eq_true rfl) (fd_rcvS fd_is1) hc ?_
  exact k
theorem r16_31T {X : fx_Sc} {M M' : fx_M} {r : Option fx_V} {x1 x2 x3 x4 s0 : Int} (g : (-2147483648 ≤ s0 ∧ s0 < 2147483648)) (h : s0 ≠ 0) (k : Ev X 16 34 [fx_f 0, .inl (x1), .inl (x2), .inl (x3), .inl (x4)] [] M r M') : Ev X 16 31 [fx_f 0, .inl (x1), .inl (x2), .inl (x3), .inl (x4)] [.inl (s0)] M r M' := by
  refine Ev.ifT fd_e16 rfl g (decide_eq_true h) ?_
  exact k
theorem r16_31F {X : fx_Sc} {M M' : fx_M} {r : Option fx_V} {x1 x2 x3 x4 s0 : Int} (g : (-2147483648 ≤ s0 ∧ s0 < 2147483648)) (h : s0 = 0) (k : Ev X 16 32 [fx_f 0, .inl (x1), .inl (x2), .inl (x3), .inl (x4)] [] M r M') : Ev X 16 31 [fx_f 0, .inl (x1), .inl (x2), .inl (x3), .inl (x4)] [.inl (s0)] M r M' := by
  refine Ev.ifF fd_e16 rfl g (decide_eq_false (not_not_intro h)) ?_
  exact k
theorem r16_32 {X : fx_Sc} {M : fx_M} {x1 x2 x3 x4 : Int} : Ev X 16 32 [fx_f 0, .inl (x1), .inl (x2), .inl (x3), .inl (x4)] [] M (some (.inl ((-6)))) M := by
  refine Ev.run 1 fd_e16 (i' := 33) (ls' := [fx_f 0, .inl (x1), .inl (x2), .inl (x3), .inl (x4)]) (st' := [.inl ((-6))]) (M1 := M) rfl ?_
  exact Ev.ret1 fd_e16 rfl rfl
theorem r16_34D {X : fx_Sc} {M M' : fx_M} {r : Option fx_V} {x1 x2 x3 x4 : Int} (g : (-2147483648 ≤ x3 ∧ x3 < 2147483648)) (h : x3 ≠ 0 ∧ x3 ≠ 2) (k : Ev X 16 51 [fx_f 0, .inl (x1), .inl (x2), .inl (x3), .inl (x4)] [] M r M') : Ev X 16 34 [fx_f 0, .inl (x1), .inl (x2), .inl (x3), .inl (x4)] [] M r M' := by
  refine Ev.run 1 fd_e16 (i' := 35) (ls' := [fx_f 0, .inl (x1), .inl (x2), .inl (x3), .inl (x4)]) (st' := [.inl (x3)]) (M1 := M) rfl ?_
  refine Ev.lsw (t := 51) fd_e16 rfl g (by simp [fx_lk, h]) ?_
  exact k
theorem r16_34c0 {X : fx_Sc} {M M' : fx_M} {r : Option fx_V} {x1 x2 x3 x4 : Int} (h : x3 = 0) (k : Ev X 16 36 [fx_f 0, .inl (x1), .inl (x2), .inl (x3), .inl (x4)] [] M r M') : Ev X 16 34 [fx_f 0, .inl (x1), .inl (x2), .inl (x3), .inl (x4)] [] M r M' := by
  refine Ev.run 1 fd_e16 (i' := 35) (ls' := [fx_f 0, .inl (x1), .inl (x2), .inl (x3), .inl (x4)]) (st' := [.inl (x3)]) (M1 := M) rfl ?_
  refine Ev.lsw (t := 36) fd_e16 rfl (by rw [h]; decide) (by rw [h]; rfl) ?_
  exact k
theorem r16_34c2 {X : fx_Sc} {M M' : fx_M} {r : Option fx_V} {x1 x2 x3 x4 : Int} (h : x3 = 2) (k : Ev X 16 41 [fx_f 0, .inl (x1), .inl (x2), .inl (x3), .inl (x4)] [] M r M') : Ev X 16 34 [fx_f 0, .inl (x1), .inl (x2), .inl (x3), .inl (x4)] [] M r M' := by
  refine Ev.run 1 fd_e16 (i' := 35) (ls' := [fx_f 0, .inl (x1), .inl (x2), .inl (x3), .inl (x4)]) (st' := [.inl (x3)]) (M1 := M) rfl ?_
  refine Ev.lsw (t := 41) fd_e16 rfl (by rw [h]; decide) (by rw [h]; rfl) ?_
  exact k
theorem r16_36 {X : fx_Sc} {M M' : fx_M} {r : Option fx_V} {x1 x2 x3 x4 z : Int} {M1 : fx_M} (hc : Ev X 84 0 [fx_f 1, .inl (x4)] [] M (some (.inl z)) M1) (k : Ev X 16 40 [fx_f 0, .inl (x1), .inl (x2), .inl (x3), .inl (x4)] [.inl (z)] M1 r M') : Ev X 16 36 [fx_f 0, .inl (x1), .inl (x2), .inl (x3), .inl (x4)] [] M r M' := by
  refine Ev.run 3 fd_e16 (i' := 39) (ls' := [fx_f 0, .inl (x1), .inl (x2), .inl (x3), .inl (x4)]) (st' := [.inl (x4), fx_f 1]) (M1 := M) rfl ?_
  refine Ev.callV (vs := [fx_f 1, .inl (x4)]) (rest := []) (r1 := (some (.inl z))) fd_e16 rfl rfl rfl (Nat.le_of_ble_eq_true rfl) (Nat.le_of_ble_eq_true rfl) (fd_rcvS fd_is1) hc ?_
  exact k
theorem r16_40 {X : fx_Sc} {M : fx_M} {x1 x2 x3 x4 s0 : Int} : Ev X 16 40 [fx_f 0, .inl (x1), .inl (x2), .inl (x3), .inl (x4)] [.inl (s0)] M (some (.inl (s0))) M := by
  exact Ev.ret1 fd_e16 rfl rfl
theorem r16_41 {X : fx_Sc} {M M' : fx_M} {r : Option fx_V} {x1 x2 x3 x4 : Int} {M1 : fx_M} (hc : Ev X 41 0 [fx_f 9, fx_f 1, fx_u] [] M none M1) (k : Ev X 16 46 [fx_f 0, .inl (x1), .inl (x2), .inl (x3), .inl (x4)] [] M1 r M') : Ev X 16 41 [fx_f 0, .inl (x1), .inl (x2), .inl (x3), .inl (x4)] [] M r M' := by
  refine Ev.run 4 fd_e16 (i' := 45) (ls' := [fx_f 0, .inl (x1), .inl (x2), .inl (x3), .inl (x4)]) (st' := [fx_f 1, fx_f 9]) (M1 := M) rfl ?_
  refine Ev.callV (vs := [fx_f 9, fx_f 1]) (rest := []) (r1 := none) fd_e16 rfl rfl rfl (Nat.le_of_ble_eq_true rfl) (Nat.le_of_ble_eq_true rfl) rfl hc ?_
  exact k
theorem r16_46 {X : fx_Sc} {M M' : fx_M} {r : Option fx_V} {x1 x2 x3 x4 z : Int} {M1 : fx_M} (hc : Ev X 46 0 [fx_f 9, .inl (x4)] [] M (some (.inl z)) M1) (k : Ev X 16 50 [fx_f 0, .inl (x1), .inl (x2), .inl (x3), .inl (x4)] [.inl (z)] M1 r M') : Ev X 16 46 [fx_f 0, .inl (x1), .inl (x2), .inl (x3), .inl (x4)] [] M r M' := by
  refine Ev.run 3 fd_e16 (i' := 49) (ls' := [fx_f 0, .inl (x1), .inl (x2), .inl (x3), .inl (x4)]) (st' := [.inl (x4), fx_f 9]) (M1 := M) rfl ?_
  refine Ev.callV (vs := [fx_f 9, .inl (x4)]) (rest := []) (r1 := (some (.inl z))) fd_e16 rfl rfl rfl (Nat.le_of_ble_eq_true rfl) (Nat.le_of_ble_eq_true rfl) rfl hc ?_
  exact k
theorem r16_50 {X : fx_Sc} {M : fx_M} {x1 x2 x3 x4 s0 : Int} : Ev X 16 50 [fx_f 0, .inl (x1), .inl (x2), .inl (x3), .inl (x4)] [.inl (s0)] M (some (.inl (s0))) M := by
  exact Ev.ret1 fd_e16 rfl rfl
theorem r16_51 {X : fx_Sc} {M M' : fx_M} {r : Option fx_V} {x1 x2 x3 x4 z : Int} {M1 : fx_M} (hc : Ev X 100 0 [fx_f 1, .inl (x4), fx_u, fx_u, fx_u, fx_u, fx_u, fx_u, fx_u] [] M (some (.inl z)) M1) (k : Ev X 16 55 [fx_f 0, .inl (x1), .inl (x2), .inl (x3), .inl (x4)] [.inl (z)] M1 r M') : Ev X 16 51 [fx_f 0, .inl (x1), .inl (x2), .inl (x3), .inl (x4)] [] M r M' := by
  refine Ev.run 3 fd_e16 (i' := 54) (ls' := [fx_f 0, .inl (x1), .inl (x2), .inl (x3), .inl (x4)]) (st' := [.inl (x4), fx_f 1]) (M1 := M) rfl ?_
  refine Ev.callV (vs := [fx_f 1, .inl (x4)]) (rest := []) (r1 := (some (.inl z))) fd_e16 rfl rfl rfl (Nat.le_of_ble_eq_true rfl) (Nat.le_of_ble_eq_true rfl) (fd_rcvS fd_is1) hc ?_
  exact k
theorem r16_55 {X : fx_Sc} {M : fx_M} {x1 x2 x3 x4 s0 : Int} : Ev X 16 55 [fx_f 0, .inl (x1), .inl (x2), .inl (x3), .inl (x4)] [.inl (s0)] M (some (.inl (s0))) M := by
  exact Ev.ret1 fd_e16 rfl rfl
-- 17: FoldedStrips.neighbourOf(I)I
theorem fd_e17 : fd_C 17 = fd_c17 := rfl
theorem r17_0 {X : fx_Sc} {M M' : fx_M} {r : Option fx_V} {x0 z : Int} {M1 : fx_M} (hc : Ev X 6 0 [.inl (x0)] [] M (some (.inl z)) M1) (k : Ev X 17 2 [.inl (x0), fx_u, fx_u] [.inl (z)] M1 r M') : Ev X 17 0 [.inl (x0), fx_u, fx_u] [] M r M' := by
  refine Ev.run 1 fd_e17 (i' := 1) (ls' := [.inl (x0), fx_u, fx_u]) (st' := [.inl (x0)]) (M1 := M) rfl ?_
  refine Ev.callS (vs := [.inl (x0)]) (rest := []) (r1 := (some (.inl z))) fd_e17 rfl rfl rfl (Nat.le_of_ble_eq_true rfl) (Nat.le_of_ble_eq_true rfl) hc ?_
  exact k
theorem r17_2T {X : fx_Sc} {M M' : fx_M} {r : Option fx_V} {x0 s0 : Int} (g : (-2147483648 ≤ s0 ∧ s0 < 2147483648)) (h : s0 ≠ 0) (k : Ev X 17 5 [.inl (x0), fx_u, fx_u] [] M r M') : Ev X 17 2 [.inl (x0), fx_u, fx_u] [.inl (s0)] M r M' := by
  refine Ev.ifT fd_e17 rfl g (decide_eq_true h) ?_
  exact k
theorem r17_2F {X : fx_Sc} {M M' : fx_M} {r : Option fx_V} {x0 s0 : Int} (g : (-2147483648 ≤ s0 ∧ s0 < 2147483648)) (h : s0 = 0) (k : Ev X 17 3 [.inl (x0), fx_u, fx_u] [] M r M') : Ev X 17 2 [.inl (x0), fx_u, fx_u] [.inl (s0)] M r M' := by
  refine Ev.ifF fd_e17 rfl g (decide_eq_false (not_not_intro h)) ?_
  exact k
theorem r17_3 {X : fx_Sc} {M : fx_M} {x0 : Int} : Ev X 17 3 [.inl (x0), fx_u, fx_u] [] M (some (.inl ((-1)))) M := by
  refine Ev.run 1 fd_e17 (i' := 4) (ls' := [.inl (x0), fx_u, fx_u]) (st' := [.inl ((-1))]) (M1 := M) rfl ?_
  exact Ev.ret1 fd_e17 rfl rfl
theorem r17_5T {X : fx_Sc} {M M' : fx_M} {r : Option fx_V} {x0 : Int} (g : (-2147483648 ≤ (fx_rem x0 24) ∧ (fx_rem x0 24) < 2147483648)) (h : 12 ≤ (fx_rem x0 24)) (k : Ev X 17 12 [.inl (x0), fx_u, fx_u] [] M r M') : Ev X 17 5 [.inl (x0), fx_u, fx_u] [] M r M' := by
  refine Ev.run 2 fd_e17 (i' := 7) (ls' := [.inl (x0), fx_u, fx_u]) (st' := [.inl (24), .inl (x0)]) (M1 := M) rfl ?_
  refine Ev.rem fd_e17 rfl (by decide) ?_
  refine Ev.run 1 fd_e17 (i' := 9) (ls' := [.inl (x0), fx_u, fx_u]) (st' := [.inl (12), .inl ((fx_rem x0 24))]) (M1 := M) rfl ?_
  refine Ev.icT fd_e17 rfl g (by decide) (decide_eq_true h) ?_
  exact k
theorem r17_5F {X : fx_Sc} {M M' : fx_M} {r : Option fx_V} {x0 : Int} (g : (-2147483648 ≤ (fx_rem x0 24) ∧ (fx_rem x0 24) < 2147483648)) (h : (fx_rem x0 24) < 12) (k : Ev X 17 10 [.inl (x0), fx_u, fx_u] [] M r M') : Ev X 17 5 [.inl (x0), fx_u, fx_u] [] M r M' := by
  refine Ev.run 2 fd_e17 (i' := 7) (ls' := [.inl (x0), fx_u, fx_u]) (st' := [.inl (24), .inl (x0)]) (M1 := M) rfl ?_
  refine Ev.rem fd_e17 rfl (by decide) ?_
  refine Ev.run 1 fd_e17 (i' := 9) (ls' := [.inl (x0), fx_u, fx_u]) (st' := [.inl (12), .inl ((fx_rem x0 24))]) (M1 := M) rfl ?_
  refine Ev.icF fd_e17 rfl g (by decide) (decide_eq_false (Int.not_le.mpr h)) ?_
  exact k
theorem r17_10 {X : fx_Sc} {M M' : fx_M} {r : Option fx_V} {x0 z : Int} {M1 : fx_M} (hc : Ev X 6 0 [.inl ((x0 - 12))] [] M (some (.inl z)) M1) (k : Ev X 17 26 [.inl (x0), .inl (1), .inl ((x0 - 12))] [.inl (z)] M1 r M') : Ev X 17 10 [.inl (x0), fx_u, fx_u] [] M r M' := by
  refine Ev.run 4 fd_e17 (i' := 15) (ls' := [.inl (x0), .inl (1), fx_u]) (st' := [.inl (1)]) (M1 := M) rfl ?_
  refine Ev.ifF fd_e17 rfl (by decide) (by decide) ?_
  refine Ev.run 6 fd_e17 (i' := 25) (ls' := [.inl (x0), .inl (1), .inl ((x0 - 12))]) (st' := [.inl ((x0 - 12))]) (M1 := M) rfl ?_
  refine Ev.callS (vs := [.inl ((x0 - 12))]) (rest := []) (r1 := (some (.inl z))) fd_e17 rfl rfl rfl (Nat.le_of_ble_eq_true rfl) (Nat.le_of_ble_eq_true rfl) hc ?_
  exact k
theorem r17_12 {X : fx_Sc} {M M' : fx_M} {r : Option fx_V} {x0 z : Int} {M1 : fx_M} (hc : Ev X 6 0 [.inl ((x0 + 12))] [] M (some (.inl z)) M1) (k : Ev X 17 26 [.inl (x0), .inl (0), .inl ((x0 + 12))] [.inl (z)] M1 r M') : Ev X 17 12 [.inl (x0), fx_u, fx_u] [] M r M' := by
  refine Ev.run 3 fd_e17 (i' := 15) (ls' := [.inl (x0), .inl (0), fx_u]) (st' := [.inl (0)]) (M1 := M) rfl ?_
  refine Ev.ifT fd_e17 rfl (by decide) (by decide) ?_
  refine Ev.run 5 fd_e17 (i' := 25) (ls' := [.inl (x0), .inl (0), .inl ((x0 + 12))]) (st' := [.inl ((x0 + 12))]) (M1 := M) rfl ?_
  refine Ev.callS (vs := [.inl ((x0 + 12))]) (rest := []) (r1 := (some (.inl z))) fd_e17 rfl rfl rfl (Nat.le_of_ble_eq_true rfl) (Nat.le_of_ble_eq_true rfl) hc ?_
  exact k
theorem r17_16 {X : fx_Sc} {M M' : fx_M} {r : Option fx_V} {x0 x1 z : Int} {M1 : fx_M} (hc : Ev X 6 0 [.inl ((x0 - 12))] [] M (some (.inl z)) M1) (k : Ev X 17 26 [.inl (x0), .inl (x1), .inl ((x0 - 12))] [.inl (z)] M1 r M') : Ev X 17 16 [.inl (x0), .inl (x1), fx_u] [] M r M' := by
  refine Ev.run 6 fd_e17 (i' := 25) (ls' := [.inl (x0), .inl (x1), .inl ((x0 - 12))]) (st' := [.inl ((x0 - 12))]) (M1 := M) rfl ?_
  refine Ev.callS (vs := [.inl ((x0 - 12))]) (rest := []) (r1 := (some (.inl z))) fd_e17 rfl rfl rfl (Nat.le_of_ble_eq_true rfl) (Nat.le_of_ble_eq_true rfl) hc ?_
  exact k
theorem r17_20 {X : fx_Sc} {M M' : fx_M} {r : Option fx_V} {x0 x1 z : Int} {M1 : fx_M} (hc : Ev X 6 0 [.inl ((x0 + 12))] [] M (some (.inl z)) M1) (k : Ev X 17 26 [.inl (x0), .inl (x1), .inl ((x0 + 12))] [.inl (z)] M1 r M') : Ev X 17 20 [.inl (x0), .inl (x1), fx_u] [] M r M' := by
  refine Ev.run 5 fd_e17 (i' := 25) (ls' := [.inl (x0), .inl (x1), .inl ((x0 + 12))]) (st' := [.inl ((x0 + 12))]) (M1 := M) rfl ?_
  refine Ev.callS (vs := [.inl ((x0 + 12))]) (rest := []) (r1 := (some (.inl z))) fd_e17 rfl rfl rfl (Nat.le_of_ble_eq_true rfl) (Nat.le_of_ble_eq_true rfl) hc ?_
  exact k
theorem r17_26T {X : fx_Sc} {M M' : fx_M} {r : Option fx_V} {x0 x1 x2 s0 : Int} (g : (-2147483648 ≤ s0 ∧ s0 < 2147483648)) (h : s0 = 0) (k : Ev X 17 29 [.inl (x0), .inl (x1), .inl (x2)] [] M r M') : Ev X 17 26 [.inl (x0), .inl (x1), .inl (x2)] [.inl (s0)] M r M' := by
  refine Ev.ifT fd_e17 rfl g (decide_eq_true h) ?_
  exact k
theorem r17_26F {X : fx_Sc} {M M' : fx_M} {r : Option fx_V} {x0 x1 x2 s0 : Int} (g : (-2147483648 ≤ s0 ∧ s0 < 2147483648)) (h : s0 ≠ 0) (k : Ev X 17 27 [.inl (x0), .inl (x1), .inl (x2)] [] M r M') : Ev X 17 26 [.inl (x0), .inl (x1), .inl (x2)] [.inl (s0)] M r M' := by
  refine Ev.ifF fd_e17 rfl g (decide_eq_false h) ?_
  exact k
theorem r17_27 {X : fx_Sc} {M : fx_M} {x0 x1 x2 : Int} : Ev X 17 27 [.inl (x0), .inl (x1), .inl (x2)] [] M (some (.inl (x2))) M := by
  refine Ev.run 2 fd_e17 (i' := 30) (ls' := [.inl (x0), .inl (x1), .inl (x2)]) (st' := [.inl (x2)]) (M1 := M) rfl ?_
  exact Ev.ret1 fd_e17 rfl rfl
theorem r17_29 {X : fx_Sc} {M : fx_M} {x0 x1 x2 : Int} : Ev X 17 29 [.inl (x0), .inl (x1), .inl (x2)] [] M (some (.inl ((-1)))) M := by
  refine Ev.run 1 fd_e17 (i' := 30) (ls' := [.inl (x0), .inl (x1), .inl (x2)]) (st' := [.inl ((-1))]) (M1 := M) rfl ?_
  exact Ev.ret1 fd_e17 rfl rfl
-- 18: FoldedStrips.panelOf(I)I
theorem fd_e18 : fd_C 18 = fd_c18 := rfl
theorem r18_0 {X : fx_Sc} {M : fx_M} {x0 : Int} : Ev X 18 0 [.inl (x0)] [] M (some (.inl ((fx_div x0 24)))) M := by
  refine Ev.run 2 fd_e18 (i' := 2) (ls' := [.inl (x0)]) (st' := [.inl (24), .inl (x0)]) (M1 := M) rfl ?_
  refine Ev.div fd_e18 rfl (by decide) ?_
  exact Ev.ret1 fd_e18 rfl rfl
-- 19: FoldedStrips.panel(II)I
theorem fd_e19 : fd_C 19 = fd_c19 := rfl
theorem r19_0 {X : fx_Sc} {M M' : fx_M} {r : Option fx_V} {x1 x2 z : Int} {M1 : fx_M} (hc : Ev X 1 0 [.inl (x1)] [] M (some (.inl z)) M1) (k : Ev X 19 2 [fx_f 0, .inl (x1), .inl (x2)] [.inl (z)] M1 r M') : Ev X 19 0 [fx_f 0, .inl (x1), .inl (x2)] [] M r M' := by
  refine Ev.run 1 fd_e19 (i' := 1) (ls' := [fx_f 0, .inl (x1), .inl (x2)]) (st' := [.inl (x1)]) (M1 := M) rfl ?_
  refine Ev.callS (vs := [.inl (x1)]) (rest := []) (r1 := (some (.inl z))) fd_e19 rfl rfl rfl (Nat.le_of_ble_eq_true rfl) (Nat.le_of_ble_eq_true rfl) hc ?_
  exact k
theorem r19_2T {X : fx_Sc} {M M' : fx_M} {r : Option fx_V} {x1 x2 s0 : Int} (g : (-2147483648 ≤ s0 ∧ s0 < 2147483648)) (h : s0 ≠ 0) (k : Ev X 19 5 [fx_f 0, .inl (x1), .inl (x2)] [] M r M') : Ev X 19 2 [fx_f 0, .inl (x1), .inl (x2)] [.inl (s0)] M r M' := by
  refine Ev.ifT fd_e19 rfl g (decide_eq_true h) ?_
  exact k
theorem r19_2F {X : fx_Sc} {M M' : fx_M} {r : Option fx_V} {x1 x2 s0 : Int} (g : (-2147483648 ≤ s0 ∧ s0 < 2147483648)) (h : s0 = 0) (k : Ev X 19 3 [fx_f 0, .inl (x1), .inl (x2)] [] M r M') : Ev X 19 2 [fx_f 0, .inl (x1), .inl (x2)] [.inl (s0)] M r M' := by
  refine Ev.ifF fd_e19 rfl g (decide_eq_false (not_not_intro h)) ?_
  exact k
theorem r19_3 {X : fx_Sc} {M : fx_M} {x1 x2 : Int} : Ev X 19 3 [fx_f 0, .inl (x1), .inl (x2)] [] M (some (.inl ((-1)))) M := by
  refine Ev.run 1 fd_e19 (i' := 4) (ls' := [fx_f 0, .inl (x1), .inl (x2)]) (st' := [.inl ((-1))]) (M1 := M) rfl ?_
  exact Ev.ret1 fd_e19 rfl rfl
theorem r19_5D {X : fx_Sc} {M M' : fx_M} {r : Option fx_V} {x1 x2 : Int} (g : (-2147483648 ≤ x2 ∧ x2 < 2147483648)) (h : x2 < 0 ∨ 7 < x2) (k : Ev X 19 54 [fx_f 0, .inl (x1), .inl (x2)] [] M r M') : Ev X 19 5 [fx_f 0, .inl (x1), .inl (x2)] [] M r M' := by
  refine Ev.run 1 fd_e19 (i' := 6) (ls' := [fx_f 0, .inl (x1), .inl (x2)]) (st' := [.inl (x2)]) (M1 := M) rfl ?_
  refine Ev.tsO fd_e19 rfl g h ?_
  exact k
theorem r19_5c0 {X : fx_Sc} {M M' : fx_M} {r : Option fx_V} {x1 x2 : Int} (h : x2 = 0) (k : Ev X 19 7 [fx_f 0, .inl (x1), .inl (x2)] [] M r M') : Ev X 19 5 [fx_f 0, .inl (x1), .inl (x2)] [] M r M' := by
  refine Ev.run 1 fd_e19 (i' := 6) (ls' := [fx_f 0, .inl (x1), .inl (x2)]) (st' := [.inl (x2)]) (M1 := M) rfl ?_
  refine Ev.tsI (t := 7) fd_e19 rfl (by rw [h]; decide) (by rw [h]; decide) (by rw [h]; rfl) ?_
  exact k
theorem r19_5c1 {X : fx_Sc} {M M' : fx_M} {r : Option fx_V} {x1 x2 : Int} (h : x2 = 1) (k : Ev X 19 12 [fx_f 0, .inl (x1), .inl (x2)] [] M r M') : Ev X 19 5 [fx_f 0, .inl (x1), .inl (x2)] [] M r M' := by
  refine Ev.run 1 fd_e19 (i' := 6) (ls' := [fx_f 0, .inl (x1), .inl (x2)]) (st' := [.inl (x2)]) (M1 := M) rfl ?_
  refine Ev.tsI (t := 12) fd_e19 rfl (by rw [h]; decide) (by rw [h]; decide) (by rw [h]; rfl) ?_
  exact k
theorem r19_5c2 {X : fx_Sc} {M M' : fx_M} {r : Option fx_V} {x1 x2 : Int} (h : x2 = 2) (k : Ev X 19 17 [fx_f 0, .inl (x1), .inl (x2)] [] M r M') : Ev X 19 5 [fx_f 0, .inl (x1), .inl (x2)] [] M r M' := by
  refine Ev.run 1 fd_e19 (i' := 6) (ls' := [fx_f 0, .inl (x1), .inl (x2)]) (st' := [.inl (x2)]) (M1 := M) rfl ?_
  refine Ev.tsI (t := 17) fd_e19 rfl (by rw [h]; decide) (by rw [h]; decide) (by rw [h]; rfl) ?_
  exact k
theorem r19_5c3 {X : fx_Sc} {M M' : fx_M} {r : Option fx_V} {x1 x2 : Int} (h : x2 = 3) (k : Ev X 19 23 [fx_f 0, .inl (x1), .inl (x2)] [] M r M') : Ev X 19 5 [fx_f 0, .inl (x1), .inl (x2)] [] M r M' := by
  refine Ev.run 1 fd_e19 (i' := 6) (ls' := [fx_f 0, .inl (x1), .inl (x2)]) (st' := [.inl (x2)]) (M1 := M) rfl ?_
  refine Ev.tsI (t := 23) fd_e19 rfl (by rw [h]; decide) (by rw [h]; decide) (by rw [h]; rfl) ?_
  exact k
theorem r19_5c4 {X : fx_Sc} {M M' : fx_M} {r : Option fx_V} {x1 x2 : Int} (h : x2 = 4) (k : Ev X 19 29 [fx_f 0, .inl (x1), .inl (x2)] [] M r M') : Ev X 19 5 [fx_f 0, .inl (x1), .inl (x2)] [] M r M' := by
  refine Ev.run 1 fd_e19 (i' := 6) (ls' := [fx_f 0, .inl (x1), .inl (x2)]) (st' := [.inl (x2)]) (M1 := M) rfl ?_
  refine Ev.tsI (t := 29) fd_e19 rfl (by rw [h]; decide) (by rw [h]; decide) (by rw [h]; rfl) ?_
  exact k
theorem r19_5c5 {X : fx_Sc} {M M' : fx_M} {r : Option fx_V} {x1 x2 : Int} (h : x2 = 5) (k : Ev X 19 34 [fx_f 0, .inl (x1), .inl (x2)] [] M r M') : Ev X 19 5 [fx_f 0, .inl (x1), .inl (x2)] [] M r M' := by
  refine Ev.run 1 fd_e19 (i' := 6) (ls' := [fx_f 0, .inl (x1), .inl (x2)]) (st' := [.inl (x2)]) (M1 := M) rfl ?_
  refine Ev.tsI (t := 34) fd_e19 rfl (by rw [h]; decide) (by rw [h]; decide) (by rw [h]; rfl) ?_
  exact k
theorem r19_5c6 {X : fx_Sc} {M M' : fx_M} {r : Option fx_V} {x1 x2 : Int} (h : x2 = 6) (k : Ev X 19 39 [fx_f 0, .inl (x1), .inl (x2)] [] M r M') : Ev X 19 5 [fx_f 0, .inl (x1), .inl (x2)] [] M r M' := by
  refine Ev.run 1 fd_e19 (i' := 6) (ls' := [fx_f 0, .inl (x1), .inl (x2)]) (st' := [.inl (x2)]) (M1 := M) rfl ?_
  refine Ev.tsI (t := 39) fd_e19 rfl (by rw [h]; decide) (by rw [h]; decide) (by rw [h]; rfl) ?_
  exact k
theorem r19_5c7 {X : fx_Sc} {M M' : fx_M} {r : Option fx_V} {x1 x2 : Int} (h : x2 = 7) (k : Ev X 19 49 [fx_f 0, .inl (x1), .inl (x2)] [] M r M') : Ev X 19 5 [fx_f 0, .inl (x1), .inl (x2)] [] M r M' := by
  refine Ev.run 1 fd_e19 (i' := 6) (ls' := [fx_f 0, .inl (x1), .inl (x2)]) (st' := [.inl (x2)]) (M1 := M) rfl ?_
  refine Ev.tsI (t := 49) fd_e19 rfl (by rw [h]; decide) (by rw [h]; decide) (by rw [h]; rfl) ?_
  exact k
theorem r19_7 {X : fx_Sc} {M M' : fx_M} {r : Option fx_V} {x1 x2 z : Int} {M1 : fx_M} (hc : Ev X 81 0 [fx_f 1, .inl (x1), fx_u] [] M (some (.inl z)) M1) (k : Ev X 19 11 [fx_f 0, .inl (x1), .inl (x2)] [.inl (z)] M1 r M') : Ev X 19 7 [fx_f 0, .inl (x1), .inl (x2)] [] M r M' := by
  refine Ev.run 3 fd_e19 (i' := 10) (ls' := [fx_f 0, .inl (x1), .inl (x2)]) (st' := [.inl (x1), fx_f 1]) (M1 := M) rfl ?_
  refine Ev.callV (vs := [fx_f 1, .inl (x1)]) (rest := []) (r1 := (some (.inl z))) fd_e19 rfl rfl rfl (Nat.le_of_ble_eq_true rfl) (Nat.le_of_ble_eq_true rfl) (fd_rcvS fd_is1) hc ?_
  exact k
theorem r19_11 {X : fx_Sc} {M : fx_M} {x1 x2 s0 : Int} : Ev X 19 11 [fx_f 0, .inl (x1), .inl (x2)] [.inl (s0)] M (some (.inl (s0))) M := by
  exact Ev.ret1 fd_e19 rfl rfl
theorem r19_12 {X : fx_Sc} {M M' : fx_M} {r : Option fx_V} {x1 x2 z : Int} {M1 : fx_M} (hc : Ev X 99 0 [fx_f 1, .inl (x1)] [] M (some (.inl z)) M1) (k : Ev X 19 16 [fx_f 0, .inl (x1), .inl (x2)] [.inl (z)] M1 r M') : Ev X 19 12 [fx_f 0, .inl (x1), .inl (x2)] [] M r M' := by
  refine Ev.run 3 fd_e19 (i' := 15) (ls' := [fx_f 0, .inl (x1), .inl (x2)]) (st' := [.inl (x1), fx_f 1]) (M1 := M) rfl ?_
  refine Ev.callV (vs := [fx_f 1, .inl (x1)]) (rest := []) (r1 := (some (.inl z))) fd_e19 rfl rfl rfl (Nat.le_of_ble_eq_true rfl) (Nat.le_of_ble_eq_true rfl) (fd_rcvS fd_is1) hc ?_
  exact k
theorem r19_16 {X : fx_Sc} {M : fx_M} {x1 x2 s0 : Int} : Ev X 19 16 [fx_f 0, .inl (x1), .inl (x2)] [.inl (s0)] M (some (.inl (s0))) M := by
  exact Ev.ret1 fd_e19 rfl rfl
theorem r19_17 {X : fx_Sc} {M M' : fx_M} {r : Option fx_V} {x1 x2 z : Int} {M1 : fx_M} (hc : Ev X 5 0 [.inl (x1)] [] M (some (.inl z)) M1) (k : Ev X 19 21 [fx_f 0, .inl (x1), .inl (x2)] [.inl (z), fx_f 1] M1 r M') : Ev X 19 17 [fx_f 0, .inl (x1), .inl (x2)] [] M r M' := by
  refine Ev.run 3 fd_e19 (i' := 20) (ls' := [fx_f 0, .inl (x1), .inl (x2)]) (st' := [.inl (x1), fx_f 1]) (M1 := M) rfl ?_
  refine Ev.callS (vs := [.inl (x1)]) (rest := [fx_f 1]) (r1 := (some (.inl z))) fd_e19 rfl rfl rfl (Nat.le_of_ble_eq_true rfl) (Nat.le_of_ble_eq_true rfl) hc ?_
  exact k
theorem r19_21 {X : fx_Sc} {M M' : fx_M} {r : Option fx_V} {x1 x2 s1 z : Int} {M1 : fx_M} (hc : Ev X 82 0 [fx_f 1, .inl (s1), fx_u, fx_u] [] M (some (.inl z)) M1) (k : Ev X 19 22 [fx_f 0, .inl (x1), .inl (x2)] [.inl (z)] M1 r M') : Ev X 19 21 [fx_f 0, .inl (x1), .inl (x2)] [.inl (s1), fx_f 1] M r M' := by
  refine Ev.callV (vs := [fx_f 1, .inl (s1)]) (rest := []) (r1 := (some (.inl z))) fd_e19 rfl rfl rfl (Nat.le_of_ble_eq_true rfl) (Nat.le_of_ble_eq_true rfl) (fd_rcvS fd_is1) hc ?_
  exact k
theorem r19_22 {X : fx_Sc} {M : fx_M} {x1 x2 s0 : Int} : Ev X 19 22 [fx_f 0, .inl (x1), .inl (x2)] [.inl (s0)] M (some (.inl (s0))) M := by
  exact Ev.ret1 fd_e19 rfl rfl
theorem r19_23 {X : fx_Sc} {M M' : fx_M} {r : Option fx_V} {x1 x2 z : Int} {M1 : fx_M} (hc : Ev X 7 0 [.inl (x1)] [] M (some (.inl z)) M1) (k : Ev X 19 27 [fx_f 0, .inl (x1), .inl (x2)] [.inl (z), fx_f 1] M1 r M') : Ev X 19 23 [fx_f 0, .inl (x1), .inl (x2)] [] M r M' := by
  refine Ev.run 3 fd_e19 (i' := 26) (ls' := [fx_f 0, .inl (x1), .inl (x2)]) (st' := [.inl (x1), fx_f 1]) (M1 := M) rfl ?_
  refine Ev.callS (vs := [.inl (x1)]) (rest := [fx_f 1]) (r1 := (some (.inl z))) fd_e19 rfl rfl rfl (Nat.le_of_ble_eq_true rfl) (Nat.le_of_ble_eq_true rfl) hc ?_
  exact k
theorem r19_27 {X : fx_Sc} {M M' : fx_M} {r : Option fx_V} {x1 x2 s1 z : Int} {M1 : fx_M} (hc : Ev X 82 0 [fx_f 1, .inl (s1), fx_u, fx_u] [] M (some (.inl z)) M1) (k : Ev X 19 28 [fx_f 0, .inl (x1), .inl (x2)] [.inl (z)] M1 r M') : Ev X 19 27 [fx_f 0, .inl (x1), .inl (x2)] [.inl (s1), fx_f 1] M r M' := by
  refine Ev.callV (vs := [fx_f 1, .inl (s1)]) (rest := []) (r1 := (some (.inl z))) fd_e19 rfl rfl rfl (Nat.le_of_ble_eq_true rfl) (Nat.le_of_ble_eq_true rfl) (fd_rcvS fd_is1) hc ?_
  exact k
theorem r19_28 {X : fx_Sc} {M : fx_M} {x1 x2 s0 : Int} : Ev X 19 28 [fx_f 0, .inl (x1), .inl (x2)] [.inl (s0)] M (some (.inl (s0))) M := by
  exact Ev.ret1 fd_e19 rfl rfl
theorem r19_29 {X : fx_Sc} {M M' : fx_M} {r : Option fx_V} {x1 x2 z : Int} {M1 : fx_M} (hc : Ev X 103 0 [fx_f 1, .inl (x1), fx_u, fx_u] [] M (some (.inl z)) M1) (k : Ev X 19 33 [fx_f 0, .inl (x1), .inl (x2)] [.inl (z)] M1 r M') : Ev X 19 29 [fx_f 0, .inl (x1), .inl (x2)] [] M r M' := by
  refine Ev.run 3 fd_e19 (i' := 32) (ls' := [fx_f 0, .inl (x1), .inl (x2)]) (st' := [.inl (x1), fx_f 1]) (M1 := M) rfl ?_
  refine Ev.callV (vs := [fx_f 1, .inl (x1)]) (rest := []) (r1 := (some (.inl z))) fd_e19 rfl rfl rfl (Nat.le_of_ble_eq_true rfl) (Nat.le_of_ble_eq_true rfl) (fd_rcvS fd_is1) hc ?_
  exact k
theorem r19_33 {X : fx_Sc} {M : fx_M} {x1 x2 s0 : Int} : Ev X 19 33 [fx_f 0, .inl (x1), .inl (x2)] [.inl (s0)] M (some (.inl (s0))) M := by
  exact Ev.ret1 fd_e19 rfl rfl
theorem r19_34 {X : fx_Sc} {M M' : fx_M} {r : Option fx_V} {x1 x2 z : Int} {M1 : fx_M} (hc : Ev X 104 0 [fx_f 1, .inl (x1), fx_u, fx_u] [] M (some (.inl z)) M1) (k : Ev X 19 38 [fx_f 0, .inl (x1), .inl (x2)] [.inl (z)] M1 r M') : Ev X 19 34 [fx_f 0, .inl (x1), .inl (x2)] [] M r M' := by
  refine Ev.run 3 fd_e19 (i' := 37) (ls' := [fx_f 0, .inl (x1), .inl (x2)]) (st' := [.inl (x1), fx_f 1]) (M1 := M) rfl ?_
  refine Ev.callV (vs := [fx_f 1, .inl (x1)]) (rest := []) (r1 := (some (.inl z))) fd_e19 rfl rfl rfl (Nat.le_of_ble_eq_true rfl) (Nat.le_of_ble_eq_true rfl) (fd_rcvS fd_is1) hc ?_
  exact k
theorem r19_38 {X : fx_Sc} {M : fx_M} {x1 x2 s0 : Int} : Ev X 19 38 [fx_f 0, .inl (x1), .inl (x2)] [.inl (s0)] M (some (.inl (s0))) M := by
  exact Ev.ret1 fd_e19 rfl rfl
theorem r19_39 {X : fx_Sc} {M M' : fx_M} {r : Option fx_V} {x1 x2 : Int} {M1 : fx_M} (hc : Ev X 41 0 [fx_f 9, fx_f 1, fx_u] [] M none M1) (k : Ev X 19 44 [fx_f 0, .inl (x1), .inl (x2)] [] M1 r M') : Ev X 19 39 [fx_f 0, .inl (x1), .inl (x2)] [] M r M' := by
  refine Ev.run 4 fd_e19 (i' := 43) (ls' := [fx_f 0, .inl (x1), .inl (x2)]) (st' := [fx_f 1, fx_f 9]) (M1 := M) rfl ?_
  refine Ev.callV (vs := [fx_f 9, fx_f 1]) (rest := []) (r1 := none) fd_e19 rfl rfl rfl (Nat.le_of_ble_eq_true rfl) (Nat.le_of_ble_eq_true rfl) rfl hc ?_
  exact k
theorem r19_44 {X : fx_Sc} {M M' : fx_M} {r : Option fx_V} {x1 x2 z : Int} {M1 : fx_M} (hc : Ev X 47 0 [fx_f 9, .inl (x1), fx_u, fx_u] [] M (some (.inl z)) M1) (k : Ev X 19 48 [fx_f 0, .inl (x1), .inl (x2)] [.inl (z)] M1 r M') : Ev X 19 44 [fx_f 0, .inl (x1), .inl (x2)] [] M r M' := by
  refine Ev.run 3 fd_e19 (i' := 47) (ls' := [fx_f 0, .inl (x1), .inl (x2)]) (st' := [.inl (x1), fx_f 9]) (M1 := M) rfl ?_
  refine Ev.callV (vs := [fx_f 9, .inl (x1)]) (rest := []) (r1 := (some (.inl z))) fd_e19 rfl rfl rfl (Nat.le_of_ble_eq_true rfl) (Nat.le_of_ble_eq_true rfl) rfl hc ?_
  exact k
theorem r19_48 {X : fx_Sc} {M : fx_M} {x1 x2 s0 : Int} : Ev X 19 48 [fx_f 0, .inl (x1), .inl (x2)] [.inl (s0)] M (some (.inl (s0))) M := by
  exact Ev.ret1 fd_e19 rfl rfl
theorem r19_49 {X : fx_Sc} {M M' : fx_M} {r : Option fx_V} {x1 x2 z : Int} {M1 : fx_M} (hc : Ev X 105 0 [fx_f 1, .inl (x1), fx_u, fx_u] [] M (some (.inl z)) M1) (k : Ev X 19 53 [fx_f 0, .inl (x1), .inl (x2)] [.inl (z)] M1 r M') : Ev X 19 49 [fx_f 0, .inl (x1), .inl (x2)] [] M r M' := by
  refine Ev.run 3 fd_e19 (i' := 52) (ls' := [fx_f 0, .inl (x1), .inl (x2)]) (st' := [.inl (x1), fx_f 1]) (M1 := M) rfl ?_
  refine Ev.callV (vs := [fx_f 1, .inl (x1)]) (rest := []) (r1 := (some (.inl z))) fd_e19 rfl rfl rfl (Nat.le_of_ble_eq_true rfl) (Nat.le_of_ble_eq_true rfl) (fd_rcvS fd_is1) hc ?_
  exact k
theorem r19_53 {X : fx_Sc} {M : fx_M} {x1 x2 s0 : Int} : Ev X 19 53 [fx_f 0, .inl (x1), .inl (x2)] [.inl (s0)] M (some (.inl (s0))) M := by
  exact Ev.ret1 fd_e19 rfl rfl
theorem r19_54 {X : fx_Sc} {M : fx_M} {x1 x2 : Int} : Ev X 19 54 [fx_f 0, .inl (x1), .inl (x2)] [] M (some (.inl ((-2)))) M := by
  refine Ev.run 1 fd_e19 (i' := 55) (ls' := [fx_f 0, .inl (x1), .inl (x2)]) (st' := [.inl ((-2))]) (M1 := M) rfl ?_
  exact Ev.ret1 fd_e19 rfl rfl
-- 20: FoldedStrips.fold(II)I
theorem fd_e20 : fd_C 20 = fd_c20 := rfl
theorem r20_0 {X : fx_Sc} {M M' : fx_M} {r : Option fx_V} {x1 x2 z : Int} {M1 : fx_M} (hc : Ev X 21 0 [.inl (x1)] [] M (some (.inl z)) M1) (k : Ev X 20 2 [fx_f 0, .inl (x1), .inl (x2)] [.inl (z)] M1 r M') : Ev X 20 0 [fx_f 0, .inl (x1), .inl (x2)] [] M r M' := by
  refine Ev.run 1 fd_e20 (i' := 1) (ls' := [fx_f 0, .inl (x1), .inl (x2)]) (st' := [.inl (x1)]) (M1 := M) rfl ?_
  refine Ev.callS (vs := [.inl (x1)]) (rest := []) (r1 := (some (.inl z))) fd_e20 rfl rfl rfl (Nat.le_of_ble_eq_true rfl) (Nat.le_of_ble_eq_true rfl) hc ?_
  exact k
theorem r20_2T {X : fx_Sc} {M M' : fx_M} {r : Option fx_V} {x1 x2 s0 : Int} (g : (-2147483648 ≤ s0 ∧ s0 < 2147483648)) (h : s0 ≠ 0) (k : Ev X 20 5 [fx_f 0, .inl (x1), .inl (x2)] [] M r M') : Ev X 20 2 [fx_f 0, .inl (x1), .inl (x2)] [.inl (s0)] M r M' := by
  refine Ev.ifT fd_e20 rfl g (decide_eq_true h) ?_
  exact k
theorem r20_2F {X : fx_Sc} {M M' : fx_M} {r : Option fx_V} {x1 x2 s0 : Int} (g : (-2147483648 ≤ s0 ∧ s0 < 2147483648)) (h : s0 = 0) (k : Ev X 20 3 [fx_f 0, .inl (x1), .inl (x2)] [] M r M') : Ev X 20 2 [fx_f 0, .inl (x1), .inl (x2)] [.inl (s0)] M r M' := by
  refine Ev.ifF fd_e20 rfl g (decide_eq_false (not_not_intro h)) ?_
  exact k
theorem r20_3 {X : fx_Sc} {M : fx_M} {x1 x2 : Int} : Ev X 20 3 [fx_f 0, .inl (x1), .inl (x2)] [] M (some (.inl ((-1)))) M := by
  refine Ev.run 1 fd_e20 (i' := 4) (ls' := [fx_f 0, .inl (x1), .inl (x2)]) (st' := [.inl ((-1))]) (M1 := M) rfl ?_
  exact Ev.ret1 fd_e20 rfl rfl
theorem r20_5D {X : fx_Sc} {M M' : fx_M} {r : Option fx_V} {x1 x2 : Int} (g : (-2147483648 ≤ x2 ∧ x2 < 2147483648)) (h : x2 < 0 ∨ 3 < x2) (k : Ev X 20 32 [fx_f 0, .inl (x1), .inl (x2)] [] M r M') : Ev X 20 5 [fx_f 0, .inl (x1), .inl (x2)] [] M r M' := by
  refine Ev.run 1 fd_e20 (i' := 6) (ls' := [fx_f 0, .inl (x1), .inl (x2)]) (st' := [.inl (x2)]) (M1 := M) rfl ?_
  refine Ev.tsO fd_e20 rfl g h ?_
  exact k
theorem r20_5c0 {X : fx_Sc} {M M' : fx_M} {r : Option fx_V} {x1 x2 : Int} (h : x2 = 0) (k : Ev X 20 7 [fx_f 0, .inl (x1), .inl (x2)] [] M r M') : Ev X 20 5 [fx_f 0, .inl (x1), .inl (x2)] [] M r M' := by
  refine Ev.run 1 fd_e20 (i' := 6) (ls' := [fx_f 0, .inl (x1), .inl (x2)]) (st' := [.inl (x2)]) (M1 := M) rfl ?_
  refine Ev.tsI (t := 7) fd_e20 rfl (by rw [h]; decide) (by rw [h]; decide) (by rw [h]; rfl) ?_
  exact k
theorem r20_5c1 {X : fx_Sc} {M M' : fx_M} {r : Option fx_V} {x1 x2 : Int} (h : x2 = 1) (k : Ev X 20 12 [fx_f 0, .inl (x1), .inl (x2)] [] M r M') : Ev X 20 5 [fx_f 0, .inl (x1), .inl (x2)] [] M r M' := by
  refine Ev.run 1 fd_e20 (i' := 6) (ls' := [fx_f 0, .inl (x1), .inl (x2)]) (st' := [.inl (x2)]) (M1 := M) rfl ?_
  refine Ev.tsI (t := 12) fd_e20 rfl (by rw [h]; decide) (by rw [h]; decide) (by rw [h]; rfl) ?_
  exact k
theorem r20_5c2 {X : fx_Sc} {M M' : fx_M} {r : Option fx_V} {x1 x2 : Int} (h : x2 = 2) (k : Ev X 20 22 [fx_f 0, .inl (x1), .inl (x2)] [] M r M') : Ev X 20 5 [fx_f 0, .inl (x1), .inl (x2)] [] M r M' := by
  refine Ev.run 1 fd_e20 (i' := 6) (ls' := [fx_f 0, .inl (x1), .inl (x2)]) (st' := [.inl (x2)]) (M1 := M) rfl ?_
  refine Ev.tsI (t := 22) fd_e20 rfl (by rw [h]; decide) (by rw [h]; decide) (by rw [h]; rfl) ?_
  exact k
theorem r20_5c3 {X : fx_Sc} {M M' : fx_M} {r : Option fx_V} {x1 x2 : Int} (h : x2 = 3) (k : Ev X 20 27 [fx_f 0, .inl (x1), .inl (x2)] [] M r M') : Ev X 20 5 [fx_f 0, .inl (x1), .inl (x2)] [] M r M' := by
  refine Ev.run 1 fd_e20 (i' := 6) (ls' := [fx_f 0, .inl (x1), .inl (x2)]) (st' := [.inl (x2)]) (M1 := M) rfl ?_
  refine Ev.tsI (t := 27) fd_e20 rfl (by rw [h]; decide) (by rw [h]; decide) (by rw [h]; rfl) ?_
  exact k
theorem r20_7 {X : fx_Sc} {M M' : fx_M} {r : Option fx_V} {x1 x2 z : Int} {M1 : fx_M} (hc : Ev X 90 0 [fx_f 1, .inl (x1)] [] M (some (.inl z)) M1) (k : Ev X 20 11 [fx_f 0, .inl (x1), .inl (x2)] [.inl (z)] M1 r M') : Ev X 20 7 [fx_f 0, .inl (x1), .inl (x2)] [] M r M' := by
  refine Ev.run 3 fd_e20 (i' := 10) (ls' := [fx_f 0, .inl (x1), .inl (x2)]) (st' := [.inl (x1), fx_f 1]) (M1 := M) rfl ?_
  refine Ev.callV (vs := [fx_f 1, .inl (x1)]) (rest := []) (r1 := (some (.inl z))) fd_e20 rfl rfl rfl (Nat.le_of_ble_eq_true rfl) (Nat.le_of_ble_eq_true rfl) (fd_rcvS fd_is1) hc ?_
  exact k
theorem r20_11 {X : fx_Sc} {M : fx_M} {x1 x2 s0 : Int} : Ev X 20 11 [fx_f 0, .inl (x1), .inl (x2)] [.inl (s0)] M (some (.inl (s0))) M := by
  exact Ev.ret1 fd_e20 rfl rfl
theorem r20_12 {X : fx_Sc} {M M' : fx_M} {r : Option fx_V} {x1 x2 z : Int} {M1 : fx_M} (hc : Ev X 90 0 [fx_f 1, .inl (x1)] [] M (some (.inl z)) M1) (k : Ev X 20 16 [fx_f 0, .inl (x1), .inl (x2)] [.inl (z)] M1 r M') : Ev X 20 12 [fx_f 0, .inl (x1), .inl (x2)] [] M r M' := by
  refine Ev.run 3 fd_e20 (i' := 15) (ls' := [fx_f 0, .inl (x1), .inl (x2)]) (st' := [.inl (x1), fx_f 1]) (M1 := M) rfl ?_
  refine Ev.callV (vs := [fx_f 1, .inl (x1)]) (rest := []) (r1 := (some (.inl z))) fd_e20 rfl rfl rfl (Nat.le_of_ble_eq_true rfl) (Nat.le_of_ble_eq_true rfl) (fd_rcvS fd_is1) hc ?_
  exact k
theorem r20_16 {X : fx_Sc} {M M' : fx_M} {r : Option fx_V} {x1 x2 s0 z : Int} {M1 : fx_M} (hc : Ev X 91 0 [fx_f 1, .inl (x1)] [] M (some (.inl z)) M1) (k : Ev X 20 20 [fx_f 0, .inl (x1), .inl (x2)] [.inl (z), .inl (s0)] M1 r M') : Ev X 20 16 [fx_f 0, .inl (x1), .inl (x2)] [.inl (s0)] M r M' := by
  refine Ev.run 3 fd_e20 (i' := 19) (ls' := [fx_f 0, .inl (x1), .inl (x2)]) (st' := [.inl (x1), fx_f 1, .inl (s0)]) (M1 := M) rfl ?_
  refine Ev.callV (vs := [fx_f 1, .inl (x1)]) (rest := [.inl (s0)]) (r1 := (some (.inl z))) fd_e20 rfl rfl rfl (Nat.le_of_ble_eq_true rfl) (Nat.le_of_ble_eq_true rfl) (fd_rcvS fd_is1) hc ?_
  exact k
theorem r20_20 {X : fx_Sc} {M : fx_M} {x1 x2 s0 s1 : Int} : Ev X 20 20 [fx_f 0, .inl (x1), .inl (x2)] [.inl (s1), .inl (s0)] M (some (.inl ((fx_and s0 s1)))) M := by
  refine Ev.run 1 fd_e20 (i' := 21) (ls' := [fx_f 0, .inl (x1), .inl (x2)]) (st' := [.inl ((fx_and s0 s1))]) (M1 := M) rfl ?_
  exact Ev.ret1 fd_e20 rfl rfl
theorem r20_22 {X : fx_Sc} {M M' : fx_M} {r : Option fx_V} {x1 x2 z : Int} {M1 : fx_M} (hc : Ev X 96 0 [fx_f 1, .inl (x1)] [] M (some (.inl z)) M1) (k : Ev X 20 26 [fx_f 0, .inl (x1), .inl (x2)] [.inl (z)] M1 r M') : Ev X 20 22 [fx_f 0, .inl (x1), .inl (x2)] [] M r M' := by
  refine Ev.run 3 fd_e20 (i' := 25) (ls' := [fx_f 0, .inl (x1), .inl (x2)]) (st' := [.inl (x1), fx_f 1]) (M1 := M) rfl ?_
  refine Ev.callV (vs := [fx_f 1, .inl (x1)]) (rest := []) (r1 := (some (.inl z))) fd_e20 rfl rfl rfl (Nat.le_of_ble_eq_true rfl) (Nat.le_of_ble_eq_true rfl) (fd_rcvS fd_is1) hc ?_
  exact k
theorem r20_26 {X : fx_Sc} {M : fx_M} {x1 x2 s0 : Int} : Ev X 20 26 [fx_f 0, .inl (x1), .inl (x2)] [.inl (s0)] M (some (.inl (s0))) M := by
  exact Ev.ret1 fd_e20 rfl rfl
theorem r20_27 {X : fx_Sc} {M M' : fx_M} {r : Option fx_V} {x1 x2 z : Int} {M1 : fx_M} (hc : Ev X 106 0 [fx_f 1, .inl (x1)] [] M (some (.inl z)) M1) (k : Ev X 20 31 [fx_f 0, .inl (x1), .inl (x2)] [.inl (z)] M1 r M') : Ev X 20 27 [fx_f 0, .inl (x1), .inl (x2)] [] M r M' := by
  refine Ev.run 3 fd_e20 (i' := 30) (ls' := [fx_f 0, .inl (x1), .inl (x2)]) (st' := [.inl (x1), fx_f 1]) (M1 := M) rfl ?_
  refine Ev.callV (vs := [fx_f 1, .inl (x1)]) (rest := []) (r1 := (some (.inl z))) fd_e20 rfl rfl rfl (Nat.le_of_ble_eq_true rfl) (Nat.le_of_ble_eq_true rfl) (fd_rcvS fd_is1) hc ?_
  exact k
theorem r20_31 {X : fx_Sc} {M : fx_M} {x1 x2 s0 : Int} : Ev X 20 31 [fx_f 0, .inl (x1), .inl (x2)] [.inl (s0)] M (some (.inl (s0))) M := by
  exact Ev.ret1 fd_e20 rfl rfl
theorem r20_32 {X : fx_Sc} {M : fx_M} {x1 x2 : Int} : Ev X 20 32 [fx_f 0, .inl (x1), .inl (x2)] [] M (some (.inl ((-2)))) M := by
  refine Ev.run 1 fd_e20 (i' := 33) (ls' := [fx_f 0, .inl (x1), .inl (x2)]) (st' := [.inl ((-2))]) (M1 := M) rfl ?_
  exact Ev.ret1 fd_e20 rfl rfl
-- 21: FoldedStrips.isFold(I)Z
theorem fd_e21 : fd_C 21 = fd_c21 := rfl
theorem r21_0T {X : fx_Sc} {M M' : fx_M} {r : Option fx_V} {x0 : Int} (g : (-2147483648 ≤ x0 ∧ x0 < 2147483648)) (h : x0 < 0) (k : Ev X 21 7 [.inl (x0)] [] M r M') : Ev X 21 0 [.inl (x0)] [] M r M' := by
  refine Ev.run 1 fd_e21 (i' := 1) (ls' := [.inl (x0)]) (st' := [.inl (x0)]) (M1 := M) rfl ?_
  refine Ev.ifT fd_e21 rfl g (decide_eq_true h) ?_
  exact k
theorem r21_0F {X : fx_Sc} {M M' : fx_M} {r : Option fx_V} {x0 : Int} (g : (-2147483648 ≤ x0 ∧ x0 < 2147483648)) (h : 0 ≤ x0) (k : Ev X 21 2 [.inl (x0)] [] M r M') : Ev X 21 0 [.inl (x0)] [] M r M' := by
  refine Ev.run 1 fd_e21 (i' := 1) (ls' := [.inl (x0)]) (st' := [.inl (x0)]) (M1 := M) rfl ?_
  refine Ev.ifF fd_e21 rfl g (decide_eq_false (Int.not_lt.mpr h)) ?_
  exact k
theorem r21_2T {X : fx_Sc} {M M' : fx_M} {r : Option fx_V} {x0 : Int} (g : (-2147483648 ≤ x0 ∧ x0 < 2147483648)) (h : 5 ≤ x0) (k : Ev X 21 7 [.inl (x0)] [] M r M') : Ev X 21 2 [.inl (x0)] [] M r M' := by
  refine Ev.run 2 fd_e21 (i' := 4) (ls' := [.inl (x0)]) (st' := [.inl (5), .inl (x0)]) (M1 := M) rfl ?_
  refine Ev.icT fd_e21 rfl g (by decide) (decide_eq_true h) ?_
  exact k
theorem r21_2F {X : fx_Sc} {M M' : fx_M} {r : Option fx_V} {x0 : Int} (g : (-2147483648 ≤ x0 ∧ x0 < 2147483648)) (h : x0 < 5) (k : Ev X 21 5 [.inl (x0)] [] M r M') : Ev X 21 2 [.inl (x0)] [] M r M' := by
  refine Ev.run 2 fd_e21 (i' := 4) (ls' := [.inl (x0)]) (st' := [.inl (5), .inl (x0)]) (M1 := M) rfl ?_
  refine Ev.icF fd_e21 rfl g (by decide) (decide_eq_false (Int.not_le.mpr h)) ?_
  exact k
theorem r21_5 {X : fx_Sc} {M : fx_M} {x0 : Int} : Ev X 21 5 [.inl (x0)] [] M (some (.inl (1))) M := by
  refine Ev.run 2 fd_e21 (i' := 8) (ls' := [.inl (x0)]) (st' := [.inl (1)]) (M1 := M) rfl ?_
  exact Ev.ret2 fd_e21 rfl rfl (by decide)
theorem r21_7 {X : fx_Sc} {M : fx_M} {x0 : Int} : Ev X 21 7 [.inl (x0)] [] M (some (.inl (0))) M := by
  refine Ev.run 1 fd_e21 (i' := 8) (ls' := [.inl (x0)]) (st' := [.inl (0)]) (M1 := M) rfl ?_
  exact Ev.ret2 fd_e21 rfl rfl (by decide)
-- 22: FoldedStrips.hand(II)I
theorem fd_e22 : fd_C 22 = fd_c22 := rfl
theorem r22_0 {X : fx_Sc} {M M' : fx_M} {r : Option fx_V} {x1 x2 z : Int} {M1 : fx_M} (hc : Ev X 2 0 [.inl (x1)] [] M (some (.inl z)) M1) (k : Ev X 22 2 [fx_f 0, .inl (x1), .inl (x2)] [.inl (z)] M1 r M') : Ev X 22 0 [fx_f 0, .inl (x1), .inl (x2)] [] M r M' := by
  refine Ev.run 1 fd_e22 (i' := 1) (ls' := [fx_f 0, .inl (x1), .inl (x2)]) (st' := [.inl (x1)]) (M1 := M) rfl ?_
  refine Ev.callS (vs := [.inl (x1)]) (rest := []) (r1 := (some (.inl z))) fd_e22 rfl rfl rfl (Nat.le_of_ble_eq_true rfl) (Nat.le_of_ble_eq_true rfl) hc ?_
  exact k
theorem r22_2T {X : fx_Sc} {M M' : fx_M} {r : Option fx_V} {x1 x2 s0 : Int} (g : (-2147483648 ≤ s0 ∧ s0 < 2147483648)) (h : s0 ≠ 0) (k : Ev X 22 5 [fx_f 0, .inl (x1), .inl (x2)] [] M r M') : Ev X 22 2 [fx_f 0, .inl (x1), .inl (x2)] [.inl (s0)] M r M' := by
  refine Ev.ifT fd_e22 rfl g (decide_eq_true h) ?_
  exact k
theorem r22_2F {X : fx_Sc} {M M' : fx_M} {r : Option fx_V} {x1 x2 s0 : Int} (g : (-2147483648 ≤ s0 ∧ s0 < 2147483648)) (h : s0 = 0) (k : Ev X 22 3 [fx_f 0, .inl (x1), .inl (x2)] [] M r M') : Ev X 22 2 [fx_f 0, .inl (x1), .inl (x2)] [.inl (s0)] M r M' := by
  refine Ev.ifF fd_e22 rfl g (decide_eq_false (not_not_intro h)) ?_
  exact k
theorem r22_3 {X : fx_Sc} {M : fx_M} {x1 x2 : Int} : Ev X 22 3 [fx_f 0, .inl (x1), .inl (x2)] [] M (some (.inl ((-1)))) M := by
  refine Ev.run 1 fd_e22 (i' := 4) (ls' := [fx_f 0, .inl (x1), .inl (x2)]) (st' := [.inl ((-1))]) (M1 := M) rfl ?_
  exact Ev.ret1 fd_e22 rfl rfl
theorem r22_5D {X : fx_Sc} {M M' : fx_M} {r : Option fx_V} {x1 x2 : Int} (g : (-2147483648 ≤ x2 ∧ x2 < 2147483648)) (h : x2 < 0 ∨ 3 < x2) (k : Ev X 22 32 [fx_f 0, .inl (x1), .inl (x2)] [] M r M') : Ev X 22 5 [fx_f 0, .inl (x1), .inl (x2)] [] M r M' := by
  refine Ev.run 1 fd_e22 (i' := 6) (ls' := [fx_f 0, .inl (x1), .inl (x2)]) (st' := [.inl (x2)]) (M1 := M) rfl ?_
  refine Ev.tsO fd_e22 rfl g h ?_
  exact k
theorem r22_5c0 {X : fx_Sc} {M M' : fx_M} {r : Option fx_V} {x1 x2 : Int} (h : x2 = 0) (k : Ev X 22 7 [fx_f 0, .inl (x1), .inl (x2)] [] M r M') : Ev X 22 5 [fx_f 0, .inl (x1), .inl (x2)] [] M r M' := by
  refine Ev.run 1 fd_e22 (i' := 6) (ls' := [fx_f 0, .inl (x1), .inl (x2)]) (st' := [.inl (x2)]) (M1 := M) rfl ?_
  refine Ev.tsI (t := 7) fd_e22 rfl (by rw [h]; decide) (by rw [h]; decide) (by rw [h]; rfl) ?_
  exact k
theorem r22_5c1 {X : fx_Sc} {M M' : fx_M} {r : Option fx_V} {x1 x2 : Int} (h : x2 = 1) (k : Ev X 22 12 [fx_f 0, .inl (x1), .inl (x2)] [] M r M') : Ev X 22 5 [fx_f 0, .inl (x1), .inl (x2)] [] M r M' := by
  refine Ev.run 1 fd_e22 (i' := 6) (ls' := [fx_f 0, .inl (x1), .inl (x2)]) (st' := [.inl (x2)]) (M1 := M) rfl ?_
  refine Ev.tsI (t := 12) fd_e22 rfl (by rw [h]; decide) (by rw [h]; decide) (by rw [h]; rfl) ?_
  exact k
theorem r22_5c2 {X : fx_Sc} {M M' : fx_M} {r : Option fx_V} {x1 x2 : Int} (h : x2 = 2) (k : Ev X 22 17 [fx_f 0, .inl (x1), .inl (x2)] [] M r M') : Ev X 22 5 [fx_f 0, .inl (x1), .inl (x2)] [] M r M' := by
  refine Ev.run 1 fd_e22 (i' := 6) (ls' := [fx_f 0, .inl (x1), .inl (x2)]) (st' := [.inl (x2)]) (M1 := M) rfl ?_
  refine Ev.tsI (t := 17) fd_e22 rfl (by rw [h]; decide) (by rw [h]; decide) (by rw [h]; rfl) ?_
  exact k
theorem r22_5c3 {X : fx_Sc} {M M' : fx_M} {r : Option fx_V} {x1 x2 : Int} (h : x2 = 3) (k : Ev X 22 27 [fx_f 0, .inl (x1), .inl (x2)] [] M r M') : Ev X 22 5 [fx_f 0, .inl (x1), .inl (x2)] [] M r M' := by
  refine Ev.run 1 fd_e22 (i' := 6) (ls' := [fx_f 0, .inl (x1), .inl (x2)]) (st' := [.inl (x2)]) (M1 := M) rfl ?_
  refine Ev.tsI (t := 27) fd_e22 rfl (by rw [h]; decide) (by rw [h]; decide) (by rw [h]; rfl) ?_
  exact k
theorem r22_7 {X : fx_Sc} {M M' : fx_M} {r : Option fx_V} {x1 x2 z : Int} {M1 : fx_M} (hc : Ev X 107 0 [fx_f 1, .inl (x1), fx_u, fx_u] [] M (some (.inl z)) M1) (k : Ev X 22 11 [fx_f 0, .inl (x1), .inl (x2)] [.inl (z)] M1 r M') : Ev X 22 7 [fx_f 0, .inl (x1), .inl (x2)] [] M r M' := by
  refine Ev.run 3 fd_e22 (i' := 10) (ls' := [fx_f 0, .inl (x1), .inl (x2)]) (st' := [.inl (x1), fx_f 1]) (M1 := M) rfl ?_
  refine Ev.callV (vs := [fx_f 1, .inl (x1)]) (rest := []) (r1 := (some (.inl z))) fd_e22 rfl rfl rfl (Nat.le_of_ble_eq_true rfl) (Nat.le_of_ble_eq_true rfl) (fd_rcvS fd_is1) hc ?_
  exact k
theorem r22_11 {X : fx_Sc} {M : fx_M} {x1 x2 s0 : Int} : Ev X 22 11 [fx_f 0, .inl (x1), .inl (x2)] [.inl (s0)] M (some (.inl (s0))) M := by
  exact Ev.ret1 fd_e22 rfl rfl
theorem r22_12 {X : fx_Sc} {M M' : fx_M} {r : Option fx_V} {x1 x2 z : Int} {M1 : fx_M} (hc : Ev X 108 0 [fx_f 1, .inl (x1), fx_u, fx_u] [] M (some (.inl z)) M1) (k : Ev X 22 16 [fx_f 0, .inl (x1), .inl (x2)] [.inl (z)] M1 r M') : Ev X 22 12 [fx_f 0, .inl (x1), .inl (x2)] [] M r M' := by
  refine Ev.run 3 fd_e22 (i' := 15) (ls' := [fx_f 0, .inl (x1), .inl (x2)]) (st' := [.inl (x1), fx_f 1]) (M1 := M) rfl ?_
  refine Ev.callV (vs := [fx_f 1, .inl (x1)]) (rest := []) (r1 := (some (.inl z))) fd_e22 rfl rfl rfl (Nat.le_of_ble_eq_true rfl) (Nat.le_of_ble_eq_true rfl) (fd_rcvS fd_is1) hc ?_
  exact k
theorem r22_16 {X : fx_Sc} {M : fx_M} {x1 x2 s0 : Int} : Ev X 22 16 [fx_f 0, .inl (x1), .inl (x2)] [.inl (s0)] M (some (.inl (s0))) M := by
  exact Ev.ret1 fd_e22 rfl rfl
theorem r22_17 {X : fx_Sc} {M M' : fx_M} {r : Option fx_V} {x1 x2 z : Int} {M1 : fx_M} (hc : Ev X 109 0 [fx_f 1, .inl (x1), fx_u, fx_u] [] M (some (.inl z)) M1) (k : Ev X 22 21 [fx_f 0, .inl (x1), .inl (x2)] [.inl (z)] M1 r M') : Ev X 22 17 [fx_f 0, .inl (x1), .inl (x2)] [] M r M' := by
  refine Ev.run 3 fd_e22 (i' := 20) (ls' := [fx_f 0, .inl (x1), .inl (x2)]) (st' := [.inl (x1), fx_f 1]) (M1 := M) rfl ?_
  refine Ev.callV (vs := [fx_f 1, .inl (x1)]) (rest := []) (r1 := (some (.inl z))) fd_e22 rfl rfl rfl (Nat.le_of_ble_eq_true rfl) (Nat.le_of_ble_eq_true rfl) (fd_rcvS fd_is1) hc ?_
  exact k
theorem r22_21 {X : fx_Sc} {M M' : fx_M} {r : Option fx_V} {x1 x2 s0 z : Int} {M1 : fx_M} (hc : Ev X 110 0 [fx_f 1, .inl (x1), fx_u, fx_u] [] M (some (.inl z)) M1) (k : Ev X 22 25 [fx_f 0, .inl (x1), .inl (x2)] [.inl (z), .inl (s0)] M1 r M') : Ev X 22 21 [fx_f 0, .inl (x1), .inl (x2)] [.inl (s0)] M r M' := by
  refine Ev.run 3 fd_e22 (i' := 24) (ls' := [fx_f 0, .inl (x1), .inl (x2)]) (st' := [.inl (x1), fx_f 1, .inl (s0)]) (M1 := M) rfl ?_
  refine Ev.callV (vs := [fx_f 1, .inl (x1)]) (rest := [.inl (s0)]) (r1 := (some (.inl z))) fd_e22 rfl rfl rfl (Nat.le_of_ble_eq_true rfl) (Nat.le_of_ble_eq_true rfl) (fd_rcvS fd_is1) hc ?_
  exact k
theorem r22_25 {X : fx_Sc} {M : fx_M} {x1 x2 s0 s1 : Int} : Ev X 22 25 [fx_f 0, .inl (x1), .inl (x2)] [.inl (s1), .inl (s0)] M (some (.inl ((s0 + s1)))) M := by
  refine Ev.run 1 fd_e22 (i' := 26) (ls' := [fx_f 0, .inl (x1), .inl (x2)]) (st' := [.inl ((s0 + s1))]) (M1 := M) rfl ?_
  exact Ev.ret1 fd_e22 rfl rfl
theorem r22_27 {X : fx_Sc} {M M' : fx_M} {r : Option fx_V} {x1 x2 z : Int} {M1 : fx_M} (hc : Ev X 110 0 [fx_f 1, .inl (x1), fx_u, fx_u] [] M (some (.inl z)) M1) (k : Ev X 22 31 [fx_f 0, .inl (x1), .inl (x2)] [.inl (z)] M1 r M') : Ev X 22 27 [fx_f 0, .inl (x1), .inl (x2)] [] M r M' := by
  refine Ev.run 3 fd_e22 (i' := 30) (ls' := [fx_f 0, .inl (x1), .inl (x2)]) (st' := [.inl (x1), fx_f 1]) (M1 := M) rfl ?_
  refine Ev.callV (vs := [fx_f 1, .inl (x1)]) (rest := []) (r1 := (some (.inl z))) fd_e22 rfl rfl rfl (Nat.le_of_ble_eq_true rfl) (Nat.le_of_ble_eq_true rfl) (fd_rcvS fd_is1) hc ?_
  exact k
theorem r22_31 {X : fx_Sc} {M : fx_M} {x1 x2 s0 : Int} : Ev X 22 31 [fx_f 0, .inl (x1), .inl (x2)] [.inl (s0)] M (some (.inl (s0))) M := by
  exact Ev.ret1 fd_e22 rfl rfl
theorem r22_32 {X : fx_Sc} {M : fx_M} {x1 x2 : Int} : Ev X 22 32 [fx_f 0, .inl (x1), .inl (x2)] [] M (some (.inl ((-2)))) M := by
  refine Ev.run 1 fd_e22 (i' := 33) (ls' := [fx_f 0, .inl (x1), .inl (x2)]) (st' := [.inl ((-2))]) (M1 := M) rfl ?_
  exact Ev.ret1 fd_e22 rfl rfl
-- 23: FoldedStrips.line(II)I
theorem fd_e23 : fd_C 23 = fd_c23 := rfl
theorem r23_0 {X : fx_Sc} {M M' : fx_M} {r : Option fx_V} {x1 x2 : Int} {M1 : fx_M} (hc : Ev X 41 0 [fx_f 9, fx_f 1, fx_u] [] M none M1) (k : Ev X 23 5 [fx_f 0, .inl (x1), .inl (x2)] [] M1 r M') : Ev X 23 0 [fx_f 0, .inl (x1), .inl (x2)] [] M r M' := by
  refine Ev.run 4 fd_e23 (i' := 4) (ls' := [fx_f 0, .inl (x1), .inl (x2)]) (st' := [fx_f 1, fx_f 9]) (M1 := M) rfl ?_
  refine Ev.callV (vs := [fx_f 9, fx_f 1]) (rest := []) (r1 := none) fd_e23 rfl rfl rfl (Nat.le_of_ble_eq_true rfl) (Nat.le_of_ble_eq_true rfl) rfl hc ?_
  exact k
theorem r23_5T {X : fx_Sc} {M M' : fx_M} {r : Option fx_V} {x1 x2 : Int} (g : (-2147483648 ≤ x1 ∧ x1 < 2147483648)) (h : x1 < 0) (k : Ev X 23 12 [fx_f 0, .inl (x1), .inl (x2)] [] M r M') : Ev X 23 5 [fx_f 0, .inl (x1), .inl (x2)] [] M r M' := by
  refine Ev.run 1 fd_e23 (i' := 6) (ls' := [fx_f 0, .inl (x1), .inl (x2)]) (st' := [.inl (x1)]) (M1 := M) rfl ?_
  refine Ev.ifT fd_e23 rfl g (decide_eq_true h) ?_
  exact k
theorem r23_5F {X : fx_Sc} {M M' : fx_M} {r : Option fx_V} {x1 x2 : Int} (g : (-2147483648 ≤ x1 ∧ x1 < 2147483648)) (h : 0 ≤ x1) (k : Ev X 23 7 [fx_f 0, .inl (x1), .inl (x2)] [] M r M') : Ev X 23 5 [fx_f 0, .inl (x1), .inl (x2)] [] M r M' := by
  refine Ev.run 1 fd_e23 (i' := 6) (ls' := [fx_f 0, .inl (x1), .inl (x2)]) (st' := [.inl (x1)]) (M1 := M) rfl ?_
  refine Ev.ifF fd_e23 rfl g (decide_eq_false (Int.not_lt.mpr h)) ?_
  exact k
theorem r23_7 {X : fx_Sc} {M M' : fx_M} {r : Option fx_V} {x1 x2 z : Int} {M1 : fx_M} (hc : Ev X 49 0 [fx_f 9] [] M (some (.inl z)) M1) (k : Ev X 23 11 [fx_f 0, .inl (x1), .inl (x2)] [.inl (z), .inl (x1)] M1 r M') : Ev X 23 7 [fx_f 0, .inl (x1), .inl (x2)] [] M r M' := by
  refine Ev.run 3 fd_e23 (i' := 10) (ls' := [fx_f 0, .inl (x1), .inl (x2)]) (st' := [fx_f 9, .inl (x1)]) (M1 := M) rfl ?_
  refine Ev.callV (vs := [fx_f 9]) (rest := [.inl (x1)]) (r1 := (some (.inl z))) fd_e23 rfl rfl rfl (Nat.le_of_ble_eq_true rfl) (Nat.le_of_ble_eq_true rfl) rfl hc ?_
  exact k
theorem r23_11T {X : fx_Sc} {M M' : fx_M} {r : Option fx_V} {x1 x2 s0 s1 : Int} (g : (-2147483648 ≤ s0 ∧ s0 < 2147483648) ∧ (-2147483648 ≤ s1 ∧ s1 < 2147483648)) (h : s0 < s1) (k : Ev X 23 14 [fx_f 0, .inl (x1), .inl (x2)] [] M r M') : Ev X 23 11 [fx_f 0, .inl (x1), .inl (x2)] [.inl (s1), .inl (s0)] M r M' := by
  refine Ev.icT fd_e23 rfl g.1 g.2 (decide_eq_true h) ?_
  exact k
theorem r23_11F {X : fx_Sc} {M M' : fx_M} {r : Option fx_V} {x1 x2 s0 s1 : Int} (g : (-2147483648 ≤ s0 ∧ s0 < 2147483648) ∧ (-2147483648 ≤ s1 ∧ s1 < 2147483648)) (h : s1 ≤ s0) (k : Ev X 23 12 [fx_f 0, .inl (x1), .inl (x2)] [] M r M') : Ev X 23 11 [fx_f 0, .inl (x1), .inl (x2)] [.inl (s1), .inl (s0)] M r M' := by
  refine Ev.icF fd_e23 rfl g.1 g.2 (decide_eq_false (Int.not_lt.mpr h)) ?_
  exact k
theorem r23_12 {X : fx_Sc} {M : fx_M} {x1 x2 : Int} : Ev X 23 12 [fx_f 0, .inl (x1), .inl (x2)] [] M (some (.inl ((-1)))) M := by
  refine Ev.run 1 fd_e23 (i' := 13) (ls' := [fx_f 0, .inl (x1), .inl (x2)]) (st' := [.inl ((-1))]) (M1 := M) rfl ?_
  exact Ev.ret1 fd_e23 rfl rfl
theorem r23_14D {X : fx_Sc} {M M' : fx_M} {r : Option fx_V} {x1 x2 : Int} (g : (-2147483648 ≤ x2 ∧ x2 < 2147483648)) (h : x2 < 0 ∨ 5 < x2) (k : Ev X 23 50 [fx_f 0, .inl (x1), .inl (x2)] [] M r M') : Ev X 23 14 [fx_f 0, .inl (x1), .inl (x2)] [] M r M' := by
  refine Ev.run 1 fd_e23 (i' := 15) (ls' := [fx_f 0, .inl (x1), .inl (x2)]) (st' := [.inl (x2)]) (M1 := M) rfl ?_
  refine Ev.tsO fd_e23 rfl g h ?_
  exact k
theorem r23_14c0 {X : fx_Sc} {M M' : fx_M} {r : Option fx_V} {x1 x2 : Int} (h : x2 = 0) (k : Ev X 23 16 [fx_f 0, .inl (x1), .inl (x2)] [] M r M') : Ev X 23 14 [fx_f 0, .inl (x1), .inl (x2)] [] M r M' := by
  refine Ev.run 1 fd_e23 (i' := 15) (ls' := [fx_f 0, .inl (x1), .inl (x2)]) (st' := [.inl (x2)]) (M1 := M) rfl ?_
  refine Ev.tsI (t := 16) fd_e23 rfl (by rw [h]; decide) (by rw [h]; decide) (by rw [h]; rfl) ?_
  exact k
theorem r23_14c1 {X : fx_Sc} {M M' : fx_M} {r : Option fx_V} {x1 x2 : Int} (h : x2 = 1) (k : Ev X 23 21 [fx_f 0, .inl (x1), .inl (x2)] [] M r M') : Ev X 23 14 [fx_f 0, .inl (x1), .inl (x2)] [] M r M' := by
  refine Ev.run 1 fd_e23 (i' := 15) (ls' := [fx_f 0, .inl (x1), .inl (x2)]) (st' := [.inl (x2)]) (M1 := M) rfl ?_
  refine Ev.tsI (t := 21) fd_e23 rfl (by rw [h]; decide) (by rw [h]; decide) (by rw [h]; rfl) ?_
  exact k
theorem r23_14c2 {X : fx_Sc} {M M' : fx_M} {r : Option fx_V} {x1 x2 : Int} (h : x2 = 2) (k : Ev X 23 30 [fx_f 0, .inl (x1), .inl (x2)] [] M r M') : Ev X 23 14 [fx_f 0, .inl (x1), .inl (x2)] [] M r M' := by
  refine Ev.run 1 fd_e23 (i' := 15) (ls' := [fx_f 0, .inl (x1), .inl (x2)]) (st' := [.inl (x2)]) (M1 := M) rfl ?_
  refine Ev.tsI (t := 30) fd_e23 rfl (by rw [h]; decide) (by rw [h]; decide) (by rw [h]; rfl) ?_
  exact k
theorem r23_14c3 {X : fx_Sc} {M M' : fx_M} {r : Option fx_V} {x1 x2 : Int} (h : x2 = 3) (k : Ev X 23 35 [fx_f 0, .inl (x1), .inl (x2)] [] M r M') : Ev X 23 14 [fx_f 0, .inl (x1), .inl (x2)] [] M r M' := by
  refine Ev.run 1 fd_e23 (i' := 15) (ls' := [fx_f 0, .inl (x1), .inl (x2)]) (st' := [.inl (x2)]) (M1 := M) rfl ?_
  refine Ev.tsI (t := 35) fd_e23 rfl (by rw [h]; decide) (by rw [h]; decide) (by rw [h]; rfl) ?_
  exact k
theorem r23_14c4 {X : fx_Sc} {M M' : fx_M} {r : Option fx_V} {x1 x2 : Int} (h : x2 = 4) (k : Ev X 23 40 [fx_f 0, .inl (x1), .inl (x2)] [] M r M') : Ev X 23 14 [fx_f 0, .inl (x1), .inl (x2)] [] M r M' := by
  refine Ev.run 1 fd_e23 (i' := 15) (ls' := [fx_f 0, .inl (x1), .inl (x2)]) (st' := [.inl (x2)]) (M1 := M) rfl ?_
  refine Ev.tsI (t := 40) fd_e23 rfl (by rw [h]; decide) (by rw [h]; decide) (by rw [h]; rfl) ?_
  exact k
theorem r23_14c5 {X : fx_Sc} {M M' : fx_M} {r : Option fx_V} {x1 x2 : Int} (h : x2 = 5) (k : Ev X 23 45 [fx_f 0, .inl (x1), .inl (x2)] [] M r M') : Ev X 23 14 [fx_f 0, .inl (x1), .inl (x2)] [] M r M' := by
  refine Ev.run 1 fd_e23 (i' := 15) (ls' := [fx_f 0, .inl (x1), .inl (x2)]) (st' := [.inl (x2)]) (M1 := M) rfl ?_
  refine Ev.tsI (t := 45) fd_e23 rfl (by rw [h]; decide) (by rw [h]; decide) (by rw [h]; rfl) ?_
  exact k
theorem r23_16 {X : fx_Sc} {M M' : fx_M} {r : Option fx_V} {x1 x2 z : Int} {M1 : fx_M} (hc : Ev X 50 0 [fx_f 9, .inl (x1)] [] M (some (.inl z)) M1) (k : Ev X 23 20 [fx_f 0, .inl (x1), .inl (x2)] [.inl (z)] M1 r M') : Ev X 23 16 [fx_f 0, .inl (x1), .inl (x2)] [] M r M' := by
  refine Ev.run 3 fd_e23 (i' := 19) (ls' := [fx_f 0, .inl (x1), .inl (x2)]) (st' := [.inl (x1), fx_f 9]) (M1 := M) rfl ?_
  refine Ev.callV (vs := [fx_f 9, .inl (x1)]) (rest := []) (r1 := (some (.inl z))) fd_e23 rfl rfl rfl (Nat.le_of_ble_eq_true rfl) (Nat.le_of_ble_eq_true rfl) rfl hc ?_
  exact k
theorem r23_20 {X : fx_Sc} {M : fx_M} {x1 x2 s0 : Int} : Ev X 23 20 [fx_f 0, .inl (x1), .inl (x2)] [.inl (s0)] M (some (.inl (s0))) M := by
  exact Ev.ret1 fd_e23 rfl rfl
theorem r23_21 {X : fx_Sc} {M M' : fx_M} {r : Option fx_V} {x1 x2 z : Int} {M1 : fx_M} (hc : Ev X 51 0 [fx_f 9, .inl (x1)] [] M (some (.inl z)) M1) (k : Ev X 23 25 [fx_f 0, .inl (x1), .inl (x2)] [.inl (z)] M1 r M') : Ev X 23 21 [fx_f 0, .inl (x1), .inl (x2)] [] M r M' := by
  refine Ev.run 3 fd_e23 (i' := 24) (ls' := [fx_f 0, .inl (x1), .inl (x2)]) (st' := [.inl (x1), fx_f 9]) (M1 := M) rfl ?_
  refine Ev.callV (vs := [fx_f 9, .inl (x1)]) (rest := []) (r1 := (some (.inl z))) fd_e23 rfl rfl rfl (Nat.le_of_ble_eq_true rfl) (Nat.le_of_ble_eq_true rfl) rfl hc ?_
  exact k
theorem r23_25T {X : fx_Sc} {M M' : fx_M} {r : Option fx_V} {x1 x2 s0 : Int} (g : (-2147483648 ≤ s0 ∧ s0 < 2147483648)) (h : s0 = 0) (k : Ev X 23 28 [fx_f 0, .inl (x1), .inl (x2)] [] M r M') : Ev X 23 25 [fx_f 0, .inl (x1), .inl (x2)] [.inl (s0)] M r M' := by
  refine Ev.ifT fd_e23 rfl g (decide_eq_true h) ?_
  exact k
theorem r23_25F {X : fx_Sc} {M M' : fx_M} {r : Option fx_V} {x1 x2 s0 : Int} (g : (-2147483648 ≤ s0 ∧ s0 < 2147483648)) (h : s0 ≠ 0) (k : Ev X 23 26 [fx_f 0, .inl (x1), .inl (x2)] [] M r M') : Ev X 23 25 [fx_f 0, .inl (x1), .inl (x2)] [.inl (s0)] M r M' := by
  refine Ev.ifF fd_e23 rfl g (decide_eq_false h) ?_
  exact k
theorem r23_26 {X : fx_Sc} {M : fx_M} {x1 x2 : Int} : Ev X 23 26 [fx_f 0, .inl (x1), .inl (x2)] [] M (some (.inl (1))) M := by
  refine Ev.run 2 fd_e23 (i' := 29) (ls' := [fx_f 0, .inl (x1), .inl (x2)]) (st' := [.inl (1)]) (M1 := M) rfl ?_
  exact Ev.ret1 fd_e23 rfl rfl
theorem r23_28 {X : fx_Sc} {M : fx_M} {x1 x2 : Int} : Ev X 23 28 [fx_f 0, .inl (x1), .inl (x2)] [] M (some (.inl (0))) M := by
  refine Ev.run 1 fd_e23 (i' := 29) (ls' := [fx_f 0, .inl (x1), .inl (x2)]) (st' := [.inl (0)]) (M1 := M) rfl ?_
  exact Ev.ret1 fd_e23 rfl rfl
theorem r23_30 {X : fx_Sc} {M M' : fx_M} {r : Option fx_V} {x1 x2 z : Int} {M1 : fx_M} (hc : Ev X 48 0 [fx_f 9, .inl (x1)] [] M (some (.inl z)) M1) (k : Ev X 23 34 [fx_f 0, .inl (x1), .inl (x2)] [.inl (z)] M1 r M') : Ev X 23 30 [fx_f 0, .inl (x1), .inl (x2)] [] M r M' := by
  refine Ev.run 3 fd_e23 (i' := 33) (ls' := [fx_f 0, .inl (x1), .inl (x2)]) (st' := [.inl (x1), fx_f 9]) (M1 := M) rfl ?_
  refine Ev.callV (vs := [fx_f 9, .inl (x1)]) (rest := []) (r1 := (some (.inl z))) fd_e23 rfl rfl rfl (Nat.le_of_ble_eq_true rfl) (Nat.le_of_ble_eq_true rfl) rfl hc ?_
  exact k
theorem r23_34 {X : fx_Sc} {M : fx_M} {x1 x2 s0 : Int} : Ev X 23 34 [fx_f 0, .inl (x1), .inl (x2)] [.inl (s0)] M (some (.inl (s0))) M := by
  exact Ev.ret1 fd_e23 rfl rfl
theorem r23_35 {X : fx_Sc} {M M' : fx_M} {r : Option fx_V} {x1 x2 z : Int} {M1 : fx_M} (hc : Ev X 52 0 [fx_f 9, .inl (x1)] [] M (some (.inl z)) M1) (k : Ev X 23 39 [fx_f 0, .inl (x1), .inl (x2)] [.inl (z)] M1 r M') : Ev X 23 35 [fx_f 0, .inl (x1), .inl (x2)] [] M r M' := by
  refine Ev.run 3 fd_e23 (i' := 38) (ls' := [fx_f 0, .inl (x1), .inl (x2)]) (st' := [.inl (x1), fx_f 9]) (M1 := M) rfl ?_
  refine Ev.callV (vs := [fx_f 9, .inl (x1)]) (rest := []) (r1 := (some (.inl z))) fd_e23 rfl rfl rfl (Nat.le_of_ble_eq_true rfl) (Nat.le_of_ble_eq_true rfl) rfl hc ?_
  exact k
theorem r23_39 {X : fx_Sc} {M : fx_M} {x1 x2 s0 : Int} : Ev X 23 39 [fx_f 0, .inl (x1), .inl (x2)] [.inl (s0)] M (some (.inl (s0))) M := by
  exact Ev.ret1 fd_e23 rfl rfl
theorem r23_40 {X : fx_Sc} {M M' : fx_M} {r : Option fx_V} {x1 x2 z : Int} {M1 : fx_M} (hc : Ev X 53 0 [fx_f 9, .inl (x1)] [] M (some (.inl z)) M1) (k : Ev X 23 44 [fx_f 0, .inl (x1), .inl (x2)] [.inl (z)] M1 r M') : Ev X 23 40 [fx_f 0, .inl (x1), .inl (x2)] [] M r M' := by
  refine Ev.run 3 fd_e23 (i' := 43) (ls' := [fx_f 0, .inl (x1), .inl (x2)]) (st' := [.inl (x1), fx_f 9]) (M1 := M) rfl ?_
  refine Ev.callV (vs := [fx_f 9, .inl (x1)]) (rest := []) (r1 := (some (.inl z))) fd_e23 rfl rfl rfl (Nat.le_of_ble_eq_true rfl) (Nat.le_of_ble_eq_true rfl) rfl hc ?_
  exact k
theorem r23_44 {X : fx_Sc} {M : fx_M} {x1 x2 s0 : Int} : Ev X 23 44 [fx_f 0, .inl (x1), .inl (x2)] [.inl (s0)] M (some (.inl (s0))) M := by
  exact Ev.ret1 fd_e23 rfl rfl
theorem r23_45 {X : fx_Sc} {M M' : fx_M} {r : Option fx_V} {x1 x2 z : Int} {M1 : fx_M} (hc : Ev X 54 0 [fx_f 9, .inl (x1)] [] M (some (.inl z)) M1) (k : Ev X 23 49 [fx_f 0, .inl (x1), .inl (x2)] [.inl (z)] M1 r M') : Ev X 23 45 [fx_f 0, .inl (x1), .inl (x2)] [] M r M' := by
  refine Ev.run 3 fd_e23 (i' := 48) (ls' := [fx_f 0, .inl (x1), .inl (x2)]) (st' := [.inl (x1), fx_f 9]) (M1 := M) rfl ?_
  refine Ev.callV (vs := [fx_f 9, .inl (x1)]) (rest := []) (r1 := (some (.inl z))) fd_e23 rfl rfl rfl (Nat.le_of_ble_eq_true rfl) (Nat.le_of_ble_eq_true rfl) rfl hc ?_
  exact k
theorem r23_49 {X : fx_Sc} {M : fx_M} {x1 x2 s0 : Int} : Ev X 23 49 [fx_f 0, .inl (x1), .inl (x2)] [.inl (s0)] M (some (.inl (s0))) M := by
  exact Ev.ret1 fd_e23 rfl rfl
theorem r23_50 {X : fx_Sc} {M : fx_M} {x1 x2 : Int} : Ev X 23 50 [fx_f 0, .inl (x1), .inl (x2)] [] M (some (.inl ((-2)))) M := by
  refine Ev.run 1 fd_e23 (i' := 51) (ls' := [fx_f 0, .inl (x1), .inl (x2)]) (st' := [.inl ((-2))]) (M1 := M) rfl ?_
  exact Ev.ret1 fd_e23 rfl rfl
-- 24: FoldedStrips.count(I)I
theorem fd_e24 : fd_C 24 = fd_c24 := rfl
theorem r24_0D {X : fx_Sc} {M M' : fx_M} {r : Option fx_V} {x1 : Int} (g : (-2147483648 ≤ x1 ∧ x1 < 2147483648)) (h : x1 < 0 ∨ 10 < x1) (k : Ev X 24 26 [fx_f 0, .inl (x1)] [] M r M') : Ev X 24 0 [fx_f 0, .inl (x1)] [] M r M' := by
  refine Ev.run 1 fd_e24 (i' := 1) (ls' := [fx_f 0, .inl (x1)]) (st' := [.inl (x1)]) (M1 := M) rfl ?_
  refine Ev.tsO fd_e24 rfl g h ?_
  exact k
theorem r24_0c0 {X : fx_Sc} {M M' : fx_M} {r : Option fx_V} {x1 : Int} (h : x1 = 0) (k : Ev X 24 2 [fx_f 0, .inl (x1)] [] M r M') : Ev X 24 0 [fx_f 0, .inl (x1)] [] M r M' := by
  refine Ev.run 1 fd_e24 (i' := 1) (ls' := [fx_f 0, .inl (x1)]) (st' := [.inl (x1)]) (M1 := M) rfl ?_
  refine Ev.tsI (t := 2) fd_e24 rfl (by rw [h]; decide) (by rw [h]; decide) (by rw [h]; rfl) ?_
  exact k
theorem r24_0c1 {X : fx_Sc} {M M' : fx_M} {r : Option fx_V} {x1 : Int} (h : x1 = 1) (k : Ev X 24 26 [fx_f 0, .inl (x1)] [] M r M') : Ev X 24 0 [fx_f 0, .inl (x1)] [] M r M' := by
  refine Ev.run 1 fd_e24 (i' := 1) (ls' := [fx_f 0, .inl (x1)]) (st' := [.inl (x1)]) (M1 := M) rfl ?_
  refine Ev.tsI (t := 26) fd_e24 rfl (by rw [h]; decide) (by rw [h]; decide) (by rw [h]; rfl) ?_
  exact k
theorem r24_0c2 {X : fx_Sc} {M M' : fx_M} {r : Option fx_V} {x1 : Int} (h : x1 = 2) (k : Ev X 24 26 [fx_f 0, .inl (x1)] [] M r M') : Ev X 24 0 [fx_f 0, .inl (x1)] [] M r M' := by
  refine Ev.run 1 fd_e24 (i' := 1) (ls' := [fx_f 0, .inl (x1)]) (st' := [.inl (x1)]) (M1 := M) rfl ?_
  refine Ev.tsI (t := 26) fd_e24 rfl (by rw [h]; decide) (by rw [h]; decide) (by rw [h]; rfl) ?_
  exact k
theorem r24_0c3 {X : fx_Sc} {M M' : fx_M} {r : Option fx_V} {x1 : Int} (h : x1 = 3) (k : Ev X 24 6 [fx_f 0, .inl (x1)] [] M r M') : Ev X 24 0 [fx_f 0, .inl (x1)] [] M r M' := by
  refine Ev.run 1 fd_e24 (i' := 1) (ls' := [fx_f 0, .inl (x1)]) (st' := [.inl (x1)]) (M1 := M) rfl ?_
  refine Ev.tsI (t := 6) fd_e24 rfl (by rw [h]; decide) (by rw [h]; decide) (by rw [h]; rfl) ?_
  exact k
theorem r24_0c4 {X : fx_Sc} {M M' : fx_M} {r : Option fx_V} {x1 : Int} (h : x1 = 4) (k : Ev X 24 10 [fx_f 0, .inl (x1)] [] M r M') : Ev X 24 0 [fx_f 0, .inl (x1)] [] M r M' := by
  refine Ev.run 1 fd_e24 (i' := 1) (ls' := [fx_f 0, .inl (x1)]) (st' := [.inl (x1)]) (M1 := M) rfl ?_
  refine Ev.tsI (t := 10) fd_e24 rfl (by rw [h]; decide) (by rw [h]; decide) (by rw [h]; rfl) ?_
  exact k
theorem r24_0c5 {X : fx_Sc} {M M' : fx_M} {r : Option fx_V} {x1 : Int} (h : x1 = 5) (k : Ev X 24 6 [fx_f 0, .inl (x1)] [] M r M') : Ev X 24 0 [fx_f 0, .inl (x1)] [] M r M' := by
  refine Ev.run 1 fd_e24 (i' := 1) (ls' := [fx_f 0, .inl (x1)]) (st' := [.inl (x1)]) (M1 := M) rfl ?_
  refine Ev.tsI (t := 6) fd_e24 rfl (by rw [h]; decide) (by rw [h]; decide) (by rw [h]; rfl) ?_
  exact k
theorem r24_0c6 {X : fx_Sc} {M M' : fx_M} {r : Option fx_V} {x1 : Int} (h : x1 = 6) (k : Ev X 24 14 [fx_f 0, .inl (x1)] [] M r M') : Ev X 24 0 [fx_f 0, .inl (x1)] [] M r M' := by
  refine Ev.run 1 fd_e24 (i' := 1) (ls' := [fx_f 0, .inl (x1)]) (st' := [.inl (x1)]) (M1 := M) rfl ?_
  refine Ev.tsI (t := 14) fd_e24 rfl (by rw [h]; decide) (by rw [h]; decide) (by rw [h]; rfl) ?_
  exact k
theorem r24_0c7 {X : fx_Sc} {M M' : fx_M} {r : Option fx_V} {x1 : Int} (h : x1 = 7) (k : Ev X 24 26 [fx_f 0, .inl (x1)] [] M r M') : Ev X 24 0 [fx_f 0, .inl (x1)] [] M r M' := by
  refine Ev.run 1 fd_e24 (i' := 1) (ls' := [fx_f 0, .inl (x1)]) (st' := [.inl (x1)]) (M1 := M) rfl ?_
  refine Ev.tsI (t := 26) fd_e24 rfl (by rw [h]; decide) (by rw [h]; decide) (by rw [h]; rfl) ?_
  exact k
theorem r24_0c8 {X : fx_Sc} {M M' : fx_M} {r : Option fx_V} {x1 : Int} (h : x1 = 8) (k : Ev X 24 26 [fx_f 0, .inl (x1)] [] M r M') : Ev X 24 0 [fx_f 0, .inl (x1)] [] M r M' := by
  refine Ev.run 1 fd_e24 (i' := 1) (ls' := [fx_f 0, .inl (x1)]) (st' := [.inl (x1)]) (M1 := M) rfl ?_
  refine Ev.tsI (t := 26) fd_e24 rfl (by rw [h]; decide) (by rw [h]; decide) (by rw [h]; rfl) ?_
  exact k
theorem r24_0c9 {X : fx_Sc} {M M' : fx_M} {r : Option fx_V} {x1 : Int} (h : x1 = 9) (k : Ev X 24 18 [fx_f 0, .inl (x1)] [] M r M') : Ev X 24 0 [fx_f 0, .inl (x1)] [] M r M' := by
  refine Ev.run 1 fd_e24 (i' := 1) (ls' := [fx_f 0, .inl (x1)]) (st' := [.inl (x1)]) (M1 := M) rfl ?_
  refine Ev.tsI (t := 18) fd_e24 rfl (by rw [h]; decide) (by rw [h]; decide) (by rw [h]; rfl) ?_
  exact k
theorem r24_0c10 {X : fx_Sc} {M M' : fx_M} {r : Option fx_V} {x1 : Int} (h : x1 = 10) (k : Ev X 24 22 [fx_f 0, .inl (x1)] [] M r M') : Ev X 24 0 [fx_f 0, .inl (x1)] [] M r M' := by
  refine Ev.run 1 fd_e24 (i' := 1) (ls' := [fx_f 0, .inl (x1)]) (st' := [.inl (x1)]) (M1 := M) rfl ?_
  refine Ev.tsI (t := 22) fd_e24 rfl (by rw [h]; decide) (by rw [h]; decide) (by rw [h]; rfl) ?_
  exact k
theorem r24_2 {X : fx_Sc} {M M' : fx_M} {r : Option fx_V} {x1 z : Int} {M1 : fx_M} (hc : Ev X 111 0 [fx_f 1, fx_u, fx_u] [] M (some (.inl z)) M1) (k : Ev X 24 5 [fx_f 0, .inl (x1)] [.inl (z)] M1 r M') : Ev X 24 2 [fx_f 0, .inl (x1)] [] M r M' := by
  refine Ev.run 2 fd_e24 (i' := 4) (ls' := [fx_f 0, .inl (x1)]) (st' := [fx_f 1]) (M1 := M) rfl ?_
  refine Ev.callV (vs := [fx_f 1]) (rest := []) (r1 := (some (.inl z))) fd_e24 rfl rfl rfl (Nat.le_of_ble_eq_true rfl) (Nat.le_of_ble_eq_true rfl) (fd_rcvS fd_is1) hc ?_
  exact k
theorem r24_5 {X : fx_Sc} {M : fx_M} {x1 s0 : Int} : Ev X 24 5 [fx_f 0, .inl (x1)] [.inl (s0)] M (some (.inl (s0))) M := by
  exact Ev.ret1 fd_e24 rfl rfl
theorem r24_6 {X : fx_Sc} {M M' : fx_M} {r : Option fx_V} {x1 z : Int} {M1 : fx_M} (hc : Ev X 89 0 [fx_f 1, fx_u, fx_u] [] M (some (.inl z)) M1) (k : Ev X 24 9 [fx_f 0, .inl (x1)] [.inl (z)] M1 r M') : Ev X 24 6 [fx_f 0, .inl (x1)] [] M r M' := by
  refine Ev.run 2 fd_e24 (i' := 8) (ls' := [fx_f 0, .inl (x1)]) (st' := [fx_f 1]) (M1 := M) rfl ?_
  refine Ev.callV (vs := [fx_f 1]) (rest := []) (r1 := (some (.inl z))) fd_e24 rfl rfl rfl (Nat.le_of_ble_eq_true rfl) (Nat.le_of_ble_eq_true rfl) (fd_rcvS fd_is1) hc ?_
  exact k
theorem r24_9 {X : fx_Sc} {M : fx_M} {x1 s0 : Int} : Ev X 24 9 [fx_f 0, .inl (x1)] [.inl (s0)] M (some (.inl (s0))) M := by
  exact Ev.ret1 fd_e24 rfl rfl
theorem r24_10 {X : fx_Sc} {M M' : fx_M} {r : Option fx_V} {x1 z : Int} {M1 : fx_M} (hc : Ev X 112 0 [fx_f 1] [] M (some (.inl z)) M1) (k : Ev X 24 13 [fx_f 0, .inl (x1)] [.inl (z)] M1 r M') : Ev X 24 10 [fx_f 0, .inl (x1)] [] M r M' := by
  refine Ev.run 2 fd_e24 (i' := 12) (ls' := [fx_f 0, .inl (x1)]) (st' := [fx_f 1]) (M1 := M) rfl ?_
  refine Ev.callV (vs := [fx_f 1]) (rest := []) (r1 := (some (.inl z))) fd_e24 rfl rfl rfl (Nat.le_of_ble_eq_true rfl) (Nat.le_of_ble_eq_true rfl) (fd_rcvS fd_is1) hc ?_
  exact k
theorem r24_13 {X : fx_Sc} {M : fx_M} {x1 s0 : Int} : Ev X 24 13 [fx_f 0, .inl (x1)] [.inl (s0)] M (some (.inl (s0))) M := by
  exact Ev.ret1 fd_e24 rfl rfl
theorem r24_14 {X : fx_Sc} {M M' : fx_M} {r : Option fx_V} {x1 z : Int} {M1 : fx_M} (hc : Ev X 113 0 [fx_f 1, fx_u, fx_u] [] M (some (.inl z)) M1) (k : Ev X 24 17 [fx_f 0, .inl (x1)] [.inl (z)] M1 r M') : Ev X 24 14 [fx_f 0, .inl (x1)] [] M r M' := by
  refine Ev.run 2 fd_e24 (i' := 16) (ls' := [fx_f 0, .inl (x1)]) (st' := [fx_f 1]) (M1 := M) rfl ?_
  refine Ev.callV (vs := [fx_f 1]) (rest := []) (r1 := (some (.inl z))) fd_e24 rfl rfl rfl (Nat.le_of_ble_eq_true rfl) (Nat.le_of_ble_eq_true rfl) (fd_rcvS fd_is1) hc ?_
  exact k
theorem r24_17 {X : fx_Sc} {M : fx_M} {x1 s0 : Int} : Ev X 24 17 [fx_f 0, .inl (x1)] [.inl (s0)] M (some (.inl (s0))) M := by
  exact Ev.ret1 fd_e24 rfl rfl
theorem r24_18 {X : fx_Sc} {M M' : fx_M} {r : Option fx_V} {x1 z : Int} {M1 : fx_M} (hc : Ev X 71 0 [fx_f 17] [] M (some (.inl z)) M1) (k : Ev X 24 21 [fx_f 0, .inl (x1)] [.inl (z)] M1 r M') : Ev X 24 18 [fx_f 0, .inl (x1)] [] M r M' := by
  refine Ev.run 2 fd_e24 (i' := 20) (ls' := [fx_f 0, .inl (x1)]) (st' := [fx_f 17]) (M1 := M) rfl ?_
  refine Ev.callV (vs := [fx_f 17]) (rest := []) (r1 := (some (.inl z))) fd_e24 rfl rfl rfl (Nat.le_of_ble_eq_true rfl) (Nat.le_of_ble_eq_true rfl) rfl hc ?_
  exact k
theorem r24_21 {X : fx_Sc} {M : fx_M} {x1 s0 : Int} : Ev X 24 21 [fx_f 0, .inl (x1)] [.inl (s0)] M (some (.inl (s0))) M := by
  exact Ev.ret1 fd_e24 rfl rfl
theorem r24_22 {X : fx_Sc} {M M' : fx_M} {r : Option fx_V} {x1 z : Int} {M1 : fx_M} (hc : Ev X 39 0 [fx_f 19] [] M (some (.inl z)) M1) (k : Ev X 24 25 [fx_f 0, .inl (x1)] [.inl (z)] M1 r M') : Ev X 24 22 [fx_f 0, .inl (x1)] [] M r M' := by
  refine Ev.run 2 fd_e24 (i' := 24) (ls' := [fx_f 0, .inl (x1)]) (st' := [fx_f 19]) (M1 := M) rfl ?_
  refine Ev.callV (vs := [fx_f 19]) (rest := []) (r1 := (some (.inl z))) fd_e24 rfl rfl rfl (Nat.le_of_ble_eq_true rfl) (Nat.le_of_ble_eq_true rfl) rfl hc ?_
  exact k
theorem r24_25 {X : fx_Sc} {M : fx_M} {x1 s0 : Int} : Ev X 24 25 [fx_f 0, .inl (x1)] [.inl (s0)] M (some (.inl (s0))) M := by
  exact Ev.ret1 fd_e24 rfl rfl
theorem r24_26 {X : fx_Sc} {M M' : fx_M} {r : Option fx_V} {x1 : Int} {M1 : fx_M} (hc : Ev X 41 0 [fx_f 9, fx_f 1, fx_u] [] M none M1) (k : Ev X 24 31 [fx_f 0, .inl (x1)] [] M1 r M') : Ev X 24 26 [fx_f 0, .inl (x1)] [] M r M' := by
  refine Ev.run 4 fd_e24 (i' := 30) (ls' := [fx_f 0, .inl (x1)]) (st' := [fx_f 1, fx_f 9]) (M1 := M) rfl ?_
  refine Ev.callV (vs := [fx_f 9, fx_f 1]) (rest := []) (r1 := none) fd_e24 rfl rfl rfl (Nat.le_of_ble_eq_true rfl) (Nat.le_of_ble_eq_true rfl) rfl hc ?_
  exact k
theorem r24_31 {X : fx_Sc} {M M' : fx_M} {r : Option fx_V} {x1 z : Int} {M1 : fx_M} (hc : Ev X 25 0 [fx_f 0, .inl (x1)] [] M (some (.inl z)) M1) (k : Ev X 24 34 [fx_f 0, .inl (x1)] [.inl (z)] M1 r M') : Ev X 24 31 [fx_f 0, .inl (x1)] [] M r M' := by
  refine Ev.run 2 fd_e24 (i' := 33) (ls' := [fx_f 0, .inl (x1)]) (st' := [.inl (x1), fx_f 0]) (M1 := M) rfl ?_
  refine Ev.callV (vs := [fx_f 0, .inl (x1)]) (rest := []) (r1 := (some (.inl z))) fd_e24 rfl rfl rfl (Nat.le_of_ble_eq_true rfl) (Nat.le_of_ble_eq_true rfl) rfl hc ?_
  exact k
theorem r24_34 {X : fx_Sc} {M : fx_M} {x1 s0 : Int} : Ev X 24 34 [fx_f 0, .inl (x1)] [.inl (s0)] M (some (.inl (s0))) M := by
  exact Ev.ret1 fd_e24 rfl rfl
-- 25: FoldedStrips.countOfLines(I)I
theorem fd_e25 : fd_C 25 = fd_c25 := rfl
theorem r25_0D {X : fx_Sc} {M M' : fx_M} {r : Option fx_V} {x1 : Int} (g : (-2147483648 ≤ x1 ∧ x1 < 2147483648)) (h : x1 < 1 ∨ 8 < x1) (k : Ev X 25 18 [fx_f 0, .inl (x1)] [] M r M') : Ev X 25 0 [fx_f 0, .inl (x1)] [] M r M' := by
  refine Ev.run 1 fd_e25 (i' := 1) (ls' := [fx_f 0, .inl (x1)]) (st' := [.inl (x1)]) (M1 := M) rfl ?_
  refine Ev.tsO fd_e25 rfl g h ?_
  exact k
theorem r25_0c1 {X : fx_Sc} {M M' : fx_M} {r : Option fx_V} {x1 : Int} (h : x1 = 1) (k : Ev X 25 2 [fx_f 0, .inl (x1)] [] M r M') : Ev X 25 0 [fx_f 0, .inl (x1)] [] M r M' := by
  refine Ev.run 1 fd_e25 (i' := 1) (ls' := [fx_f 0, .inl (x1)]) (st' := [.inl (x1)]) (M1 := M) rfl ?_
  refine Ev.tsI (t := 2) fd_e25 rfl (by rw [h]; decide) (by rw [h]; decide) (by rw [h]; rfl) ?_
  exact k
theorem r25_0c2 {X : fx_Sc} {M M' : fx_M} {r : Option fx_V} {x1 : Int} (h : x1 = 2) (k : Ev X 25 6 [fx_f 0, .inl (x1)] [] M r M') : Ev X 25 0 [fx_f 0, .inl (x1)] [] M r M' := by
  refine Ev.run 1 fd_e25 (i' := 1) (ls' := [fx_f 0, .inl (x1)]) (st' := [.inl (x1)]) (M1 := M) rfl ?_
  refine Ev.tsI (t := 6) fd_e25 rfl (by rw [h]; decide) (by rw [h]; decide) (by rw [h]; rfl) ?_
  exact k
theorem r25_0c3 {X : fx_Sc} {M M' : fx_M} {r : Option fx_V} {x1 : Int} (h : x1 = 3) (k : Ev X 25 18 [fx_f 0, .inl (x1)] [] M r M') : Ev X 25 0 [fx_f 0, .inl (x1)] [] M r M' := by
  refine Ev.run 1 fd_e25 (i' := 1) (ls' := [fx_f 0, .inl (x1)]) (st' := [.inl (x1)]) (M1 := M) rfl ?_
  refine Ev.tsI (t := 18) fd_e25 rfl (by rw [h]; decide) (by rw [h]; decide) (by rw [h]; rfl) ?_
  exact k
theorem r25_0c4 {X : fx_Sc} {M M' : fx_M} {r : Option fx_V} {x1 : Int} (h : x1 = 4) (k : Ev X 25 18 [fx_f 0, .inl (x1)] [] M r M') : Ev X 25 0 [fx_f 0, .inl (x1)] [] M r M' := by
  refine Ev.run 1 fd_e25 (i' := 1) (ls' := [fx_f 0, .inl (x1)]) (st' := [.inl (x1)]) (M1 := M) rfl ?_
  refine Ev.tsI (t := 18) fd_e25 rfl (by rw [h]; decide) (by rw [h]; decide) (by rw [h]; rfl) ?_
  exact k
theorem r25_0c5 {X : fx_Sc} {M M' : fx_M} {r : Option fx_V} {x1 : Int} (h : x1 = 5) (k : Ev X 25 18 [fx_f 0, .inl (x1)] [] M r M') : Ev X 25 0 [fx_f 0, .inl (x1)] [] M r M' := by
  refine Ev.run 1 fd_e25 (i' := 1) (ls' := [fx_f 0, .inl (x1)]) (st' := [.inl (x1)]) (M1 := M) rfl ?_
  refine Ev.tsI (t := 18) fd_e25 rfl (by rw [h]; decide) (by rw [h]; decide) (by rw [h]; rfl) ?_
  exact k
theorem r25_0c6 {X : fx_Sc} {M M' : fx_M} {r : Option fx_V} {x1 : Int} (h : x1 = 6) (k : Ev X 25 18 [fx_f 0, .inl (x1)] [] M r M') : Ev X 25 0 [fx_f 0, .inl (x1)] [] M r M' := by
  refine Ev.run 1 fd_e25 (i' := 1) (ls' := [fx_f 0, .inl (x1)]) (st' := [.inl (x1)]) (M1 := M) rfl ?_
  refine Ev.tsI (t := 18) fd_e25 rfl (by rw [h]; decide) (by rw [h]; decide) (by rw [h]; rfl) ?_
  exact k
theorem r25_0c7 {X : fx_Sc} {M M' : fx_M} {r : Option fx_V} {x1 : Int} (h : x1 = 7) (k : Ev X 25 10 [fx_f 0, .inl (x1)] [] M r M') : Ev X 25 0 [fx_f 0, .inl (x1)] [] M r M' := by
  refine Ev.run 1 fd_e25 (i' := 1) (ls' := [fx_f 0, .inl (x1)]) (st' := [.inl (x1)]) (M1 := M) rfl ?_
  refine Ev.tsI (t := 10) fd_e25 rfl (by rw [h]; decide) (by rw [h]; decide) (by rw [h]; rfl) ?_
  exact k
theorem r25_0c8 {X : fx_Sc} {M M' : fx_M} {r : Option fx_V} {x1 : Int} (h : x1 = 8) (k : Ev X 25 14 [fx_f 0, .inl (x1)] [] M r M') : Ev X 25 0 [fx_f 0, .inl (x1)] [] M r M' := by
  refine Ev.run 1 fd_e25 (i' := 1) (ls' := [fx_f 0, .inl (x1)]) (st' := [.inl (x1)]) (M1 := M) rfl ?_
  refine Ev.tsI (t := 14) fd_e25 rfl (by rw [h]; decide) (by rw [h]; decide) (by rw [h]; rfl) ?_
  exact k
theorem r25_2 {X : fx_Sc} {M M' : fx_M} {r : Option fx_V} {x1 z : Int} {M1 : fx_M} (hc : Ev X 49 0 [fx_f 9] [] M (some (.inl z)) M1) (k : Ev X 25 5 [fx_f 0, .inl (x1)] [.inl (z)] M1 r M') : Ev X 25 2 [fx_f 0, .inl (x1)] [] M r M' := by
  refine Ev.run 2 fd_e25 (i' := 4) (ls' := [fx_f 0, .inl (x1)]) (st' := [fx_f 9]) (M1 := M) rfl ?_
  refine Ev.callV (vs := [fx_f 9]) (rest := []) (r1 := (some (.inl z))) fd_e25 rfl rfl rfl (Nat.le_of_ble_eq_true rfl) (Nat.le_of_ble_eq_true rfl) rfl hc ?_
  exact k
theorem r25_5 {X : fx_Sc} {M : fx_M} {x1 s0 : Int} : Ev X 25 5 [fx_f 0, .inl (x1)] [.inl (s0)] M (some (.inl (s0))) M := by
  exact Ev.ret1 fd_e25 rfl rfl
theorem r25_6 {X : fx_Sc} {M M' : fx_M} {r : Option fx_V} {x1 z : Int} {M1 : fx_M} (hc : Ev X 55 0 [fx_f 9, fx_u, fx_u] [] M (some (.inl z)) M1) (k : Ev X 25 9 [fx_f 0, .inl (x1)] [.inl (z)] M1 r M') : Ev X 25 6 [fx_f 0, .inl (x1)] [] M r M' := by
  refine Ev.run 2 fd_e25 (i' := 8) (ls' := [fx_f 0, .inl (x1)]) (st' := [fx_f 9]) (M1 := M) rfl ?_
  refine Ev.callV (vs := [fx_f 9]) (rest := []) (r1 := (some (.inl z))) fd_e25 rfl rfl rfl (Nat.le_of_ble_eq_true rfl) (Nat.le_of_ble_eq_true rfl) rfl hc ?_
  exact k
theorem r25_9 {X : fx_Sc} {M : fx_M} {x1 s0 : Int} : Ev X 25 9 [fx_f 0, .inl (x1)] [.inl (s0)] M (some (.inl (s0))) M := by
  exact Ev.ret1 fd_e25 rfl rfl
theorem r25_10 {X : fx_Sc} {M M' : fx_M} {r : Option fx_V} {x1 z : Int} {M1 : fx_M} (hc : Ev X 56 0 [fx_f 9, fx_u, fx_u] [] M (some (.inl z)) M1) (k : Ev X 25 13 [fx_f 0, .inl (x1)] [.inl (z)] M1 r M') : Ev X 25 10 [fx_f 0, .inl (x1)] [] M r M' := by
  refine Ev.run 2 fd_e25 (i' := 12) (ls' := [fx_f 0, .inl (x1)]) (st' := [fx_f 9]) (M1 := M) rfl ?_
  refine Ev.callV (vs := [fx_f 9]) (rest := []) (r1 := (some (.inl z))) fd_e25 rfl rfl rfl (Nat.le_of_ble_eq_true rfl) (Nat.le_of_ble_eq_true rfl) rfl hc ?_
  exact k
theorem r25_13 {X : fx_Sc} {M : fx_M} {x1 s0 : Int} : Ev X 25 13 [fx_f 0, .inl (x1)] [.inl (s0)] M (some (.inl (s0))) M := by
  exact Ev.ret1 fd_e25 rfl rfl
theorem r25_14 {X : fx_Sc} {M M' : fx_M} {r : Option fx_V} {x1 z : Int} {M1 : fx_M} (hc : Ev X 57 0 [fx_f 9, fx_u, fx_u, fx_u] [] M (some (.inl z)) M1) (k : Ev X 25 17 [fx_f 0, .inl (x1)] [.inl (z)] M1 r M') : Ev X 25 14 [fx_f 0, .inl (x1)] [] M r M' := by
  refine Ev.run 2 fd_e25 (i' := 16) (ls' := [fx_f 0, .inl (x1)]) (st' := [fx_f 9]) (M1 := M) rfl ?_
  refine Ev.callV (vs := [fx_f 9]) (rest := []) (r1 := (some (.inl z))) fd_e25 rfl rfl rfl (Nat.le_of_ble_eq_true rfl) (Nat.le_of_ble_eq_true rfl) rfl hc ?_
  exact k
theorem r25_17 {X : fx_Sc} {M : fx_M} {x1 s0 : Int} : Ev X 25 17 [fx_f 0, .inl (x1)] [.inl (s0)] M (some (.inl (s0))) M := by
  exact Ev.ret1 fd_e25 rfl rfl
theorem r25_18 {X : fx_Sc} {M : fx_M} {x1 : Int} : Ev X 25 18 [fx_f 0, .inl (x1)] [] M (some (.inl ((-2)))) M := by
  refine Ev.run 1 fd_e25 (i' := 19) (ls' := [fx_f 0, .inl (x1)]) (st' := [.inl ((-2))]) (M1 := M) rfl ?_
  exact Ev.ret1 fd_e25 rfl rfl
-- 26: FoldedStrips.bestSlide(II)I
theorem fd_e26 : fd_C 26 = fd_c26 := rfl
theorem r26_0 {X : fx_Sc} {M M' : fx_M} {r : Option fx_V} {x1 x2 z : Int} {M1 : fx_M} (hc : Ev X 1 0 [.inl (x1)] [] M (some (.inl z)) M1) (k : Ev X 26 2 [fx_f 0, .inl (x1), .inl (x2), fx_u, fx_u, fx_u, fx_u, fx_u, fx_u] [.inl (z)] M1 r M') : Ev X 26 0 [fx_f 0, .inl (x1), .inl (x2), fx_u, fx_u, fx_u, fx_u, fx_u, fx_u] [] M r M' := by
  refine Ev.run 1 fd_e26 (i' := 1) (ls' := [fx_f 0, .inl (x1), .inl (x2), fx_u, fx_u, fx_u, fx_u, fx_u, fx_u]) (st' := [.inl (x1)]) (M1 := M) rfl ?_
  refine Ev.callS (vs := [.inl (x1)]) (rest := []) (r1 := (some (.inl z))) fd_e26 rfl rfl rfl (Nat.le_of_ble_eq_true rfl) (Nat.le_of_ble_eq_true rfl) hc ?_
  exact k
theorem r26_2T {X : fx_Sc} {M M' : fx_M} {r : Option fx_V} {x1 x2 s0 : Int} (g : (-2147483648 ≤ s0 ∧ s0 < 2147483648)) (h : s0 ≠ 0) (k : Ev X 26 5 [fx_f 0, .inl (x1), .inl (x2), fx_u, fx_u, fx_u, fx_u, fx_u, fx_u] [] M r M') : Ev X 26 2 [fx_f 0, .inl (x1), .inl (x2), fx_u, fx_u, fx_u, fx_u, fx_u, fx_u] [.inl (s0)] M r M' := by
  refine Ev.ifT fd_e26 rfl g (decide_eq_true h) ?_
  exact k
theorem r26_2F {X : fx_Sc} {M M' : fx_M} {r : Option fx_V} {x1 x2 s0 : Int} (g : (-2147483648 ≤ s0 ∧ s0 < 2147483648)) (h : s0 = 0) (k : Ev X 26 3 [fx_f 0, .inl (x1), .inl (x2), fx_u, fx_u, fx_u, fx_u, fx_u, fx_u] [] M r M') : Ev X 26 2 [fx_f 0, .inl (x1), .inl (x2), fx_u, fx_u, fx_u, fx_u, fx_u, fx_u] [.inl (s0)] M r M' := by
  refine Ev.ifF fd_e26 rfl g (decide_eq_false (not_not_intro h)) ?_
  exact k
theorem r26_3 {X : fx_Sc} {M : fx_M} {x1 x2 : Int} : Ev X 26 3 [fx_f 0, .inl (x1), .inl (x2), fx_u, fx_u, fx_u, fx_u, fx_u, fx_u] [] M (some (.inl ((-1)))) M := by
  refine Ev.run 1 fd_e26 (i' := 4) (ls' := [fx_f 0, .inl (x1), .inl (x2), fx_u, fx_u, fx_u, fx_u, fx_u, fx_u]) (st' := [.inl ((-1))]) (M1 := M) rfl ?_
  exact Ev.ret1 fd_e26 rfl rfl
theorem r26_5T {X : fx_Sc} {M M' : fx_M} {r : Option fx_V} {x1 x2 : Int} (g : (-2147483648 ≤ x2 ∧ x2 < 2147483648)) (h : x2 = 0) (k : Ev X 26 12 [fx_f 0, .inl (x1), .inl (x2), fx_u, fx_u, fx_u, fx_u, fx_u, fx_u] [] M r M') : Ev X 26 5 [fx_f 0, .inl (x1), .inl (x2), fx_u, fx_u, fx_u, fx_u, fx_u, fx_u] [] M r M' := by
  refine Ev.run 1 fd_e26 (i' := 6) (ls' := [fx_f 0, .inl (x1), .inl (x2), fx_u, fx_u, fx_u, fx_u, fx_u, fx_u]) (st' := [.inl (x2)]) (M1 := M) rfl ?_
  refine Ev.ifT fd_e26 rfl g (decide_eq_true h) ?_
  exact k
theorem r26_5F {X : fx_Sc} {M M' : fx_M} {r : Option fx_V} {x1 x2 : Int} (g : (-2147483648 ≤ x2 ∧ x2 < 2147483648)) (h : x2 ≠ 0) (k : Ev X 26 7 [fx_f 0, .inl (x1), .inl (x2), fx_u, fx_u, fx_u, fx_u, fx_u, fx_u] [] M r M') : Ev X 26 5 [fx_f 0, .inl (x1), .inl (x2), fx_u, fx_u, fx_u, fx_u, fx_u, fx_u] [] M r M' := by
  refine Ev.run 1 fd_e26 (i' := 6) (ls' := [fx_f 0, .inl (x1), .inl (x2), fx_u, fx_u, fx_u, fx_u, fx_u, fx_u]) (st' := [.inl (x2)]) (M1 := M) rfl ?_
  refine Ev.ifF fd_e26 rfl g (decide_eq_false h) ?_
  exact k
theorem r26_7T {X : fx_Sc} {M M' : fx_M} {r : Option fx_V} {x1 x2 : Int} (g : (-2147483648 ≤ x2 ∧ x2 < 2147483648)) (h : x2 = 1) (k : Ev X 26 12 [fx_f 0, .inl (x1), .inl (x2), fx_u, fx_u, fx_u, fx_u, fx_u, fx_u] [] M r M') : Ev X 26 7 [fx_f 0, .inl (x1), .inl (x2), fx_u, fx_u, fx_u, fx_u, fx_u, fx_u] [] M r M' := by
  refine Ev.run 2 fd_e26 (i' := 9) (ls' := [fx_f 0, .inl (x1), .inl (x2), fx_u, fx_u, fx_u, fx_u, fx_u, fx_u]) (st' := [.inl (1), .inl (x2)]) (M1 := M) rfl ?_
  refine Ev.icT fd_e26 rfl g (by decide) (decide_eq_true h) ?_
  exact k
theorem r26_7F {X : fx_Sc} {M M' : fx_M} {r : Option fx_V} {x1 x2 : Int} (g : (-2147483648 ≤ x2 ∧ x2 < 2147483648)) (h : x2 ≠ 1) (k : Ev X 26 10 [fx_f 0, .inl (x1), .inl (x2), fx_u, fx_u, fx_u, fx_u, fx_u, fx_u] [] M r M') : Ev X 26 7 [fx_f 0, .inl (x1), .inl (x2), fx_u, fx_u, fx_u, fx_u, fx_u, fx_u] [] M r M' := by
  refine Ev.run 2 fd_e26 (i' := 9) (ls' := [fx_f 0, .inl (x1), .inl (x2), fx_u, fx_u, fx_u, fx_u, fx_u, fx_u]) (st' := [.inl (1), .inl (x2)]) (M1 := M) rfl ?_
  refine Ev.icF fd_e26 rfl g (by decide) (decide_eq_false h) ?_
  exact k
theorem r26_10 {X : fx_Sc} {M : fx_M} {x1 x2 : Int} : Ev X 26 10 [fx_f 0, .inl (x1), .inl (x2), fx_u, fx_u, fx_u, fx_u, fx_u, fx_u] [] M (some (.inl ((-2)))) M := by
  refine Ev.run 1 fd_e26 (i' := 11) (ls' := [fx_f 0, .inl (x1), .inl (x2), fx_u, fx_u, fx_u, fx_u, fx_u, fx_u]) (st' := [.inl ((-2))]) (M1 := M) rfl ?_
  exact Ev.ret1 fd_e26 rfl rfl
theorem r26_12 {X : fx_Sc} {M M' : fx_M} {r : Option fx_V} {x1 x2 z : Int} {M1 : fx_M} (hc : Ev X 89 0 [fx_f 1, fx_u, fx_u] [] M (some (.inl z)) M1) (k : Ev X 26 17 [fx_f 0, .inl (x1), .inl (x2), .inl (0), fx_u, fx_u, fx_u, fx_u, fx_u] [.inl (z)] M1 r M') : Ev X 26 12 [fx_f 0, .inl (x1), .inl (x2), fx_u, fx_u, fx_u, fx_u, fx_u, fx_u] [] M r M' := by
  refine Ev.run 4 fd_e26 (i' := 16) (ls' := [fx_f 0, .inl (x1), .inl (x2), .inl (0), fx_u, fx_u, fx_u, fx_u, fx_u]) (st' := [fx_f 1]) (M1 := M) rfl ?_
  refine Ev.callV (vs := [fx_f 1]) (rest := []) (r1 := (some (.inl z))) fd_e26 rfl rfl rfl (Nat.le_of_ble_eq_true rfl) (Nat.le_of_ble_eq_true rfl) (fd_rcvS fd_is1) hc ?_
  exact k
theorem r26_17 {X : fx_Sc} {M M' : fx_M} {r : Option fx_V} {x1 x2 x3 s0 : Int} (k : Ev X 26 20 [fx_f 0, .inl (x1), .inl (x2), .inl (x3), .inl (s0), .inl (1), fx_u, fx_u, fx_u] [] M r M') : Ev X 26 17 [fx_f 0, .inl (x1), .inl (x2), .inl (x3), fx_u, fx_u, fx_u, fx_u, fx_u] [.inl (s0)] M r M' := by
  refine Ev.run 3 fd_e26 (i' := 20) (ls' := [fx_f 0, .inl (x1), .inl (x2), .inl (x3), .inl (s0), .inl (1), fx_u, fx_u, fx_u]) (st' := []) (M1 := M) rfl ?_
  exact k
theorem r26_20T {X : fx_Sc} {M M' : fx_M} {r : Option fx_V} {x1 x2 x3 x4 x5 : Int} {v6 v7 v8 : fx_V} (g : (-2147483648 ≤ x5 ∧ x5 < 2147483648)) (h : 12 ≤ x5) (k : Ev X 26 54 [fx_f 0, .inl (x1), .inl (x2), .inl (x3), .inl (x4), .inl (x5), v6, v7, v8] [] M r M') : Ev X 26 20 [fx_f 0, .inl (x1), .inl (x2), .inl (x3), .inl (x4), .inl (x5), v6, v7, v8] [] M r M' := by
  refine Ev.run 2 fd_e26 (i' := 22) (ls' := [fx_f 0, .inl (x1), .inl (x2), .inl (x3), .inl (x4), .inl (x5), v6, v7, v8]) (st' := [.inl (12), .inl (x5)]) (M1 := M) rfl ?_
  refine Ev.icT fd_e26 rfl g (by decide) (decide_eq_true h) ?_
  exact k
theorem r26_20F {X : fx_Sc} {M M' : fx_M} {r : Option fx_V} {x1 x2 x3 x4 x5 : Int} {v6 v7 v8 : fx_V} (g : (-2147483648 ≤ x5 ∧ x5 < 2147483648)) (h : x5 < 12) (k : Ev X 26 23 [fx_f 0, .inl (x1), .inl (x2), .inl (x3), .inl (x4), .inl (x5), v6, v7, v8] [] M r M') : Ev X 26 20 [fx_f 0, .inl (x1), .inl (x2), .inl (x3), .inl (x4), .inl (x5), v6, v7, v8] [] M r M' := by
  refine Ev.run 2 fd_e26 (i' := 22) (ls' := [fx_f 0, .inl (x1), .inl (x2), .inl (x3), .inl (x4), .inl (x5), v6, v7, v8]) (st' := [.inl (12), .inl (x5)]) (M1 := M) rfl ?_
  refine Ev.icF fd_e26 rfl g (by decide) (decide_eq_false (Int.not_le.mpr h)) ?_
  exact k
theorem r26_23 {X : fx_Sc} {M M' : fx_M} {r : Option fx_V} {x1 x2 x3 x4 x5 : Int} {v6 v7 v8 : fx_V} (k : Ev X 26 25 [fx_f 0, .inl (x1), .inl (x2), .inl (x3), .inl (x4), .inl (x5), .inl ((-1)), v7, v8] [] M r M') : Ev X 26 23 [fx_f 0, .inl (x1), .inl (x2), .inl (x3), .inl (x4), .inl (x5), v6, v7, v8] [] M r M' := by
  refine Ev.run 2 fd_e26 (i' := 25) (ls' := [fx_f 0, .inl (x1), .inl (x2), .inl (x3), .inl (x4), .inl (x5), .inl ((-1)), v7, v8]) (st' := []) (M1 := M) rfl ?_
  exact k
theorem r26_25T {X : fx_Sc} {M M' : fx_M} {r : Option fx_V} {x1 x2 x3 x4 x5 x6 : Int} {v7 v8 : fx_V} (g : (-2147483648 ≤ x6 ∧ x6 < 2147483648)) (h : 1 < x6) (k : Ev X 26 52 [fx_f 0, .inl (x1), .inl (x2), .inl (x3), .inl (x4), .inl (x5), .inl (x6), v7, v8] [] M r M') : Ev X 26 25 [fx_f 0, .inl (x1), .inl (x2), .inl (x3), .inl (x4), .inl (x5), .inl (x6), v7, v8] [] M r M' := by
  refine Ev.run 2 fd_e26 (i' := 27) (ls' := [fx_f 0, .inl (x1), .inl (x2), .inl (x3), .inl (x4), .inl (x5), .inl (x6), v7, v8]) (st' := [.inl (1), .inl (x6)]) (M1 := M) rfl ?_
  refine Ev.icT fd_e26 rfl g (by decide) (decide_eq_true h) ?_
  exact k
theorem r26_25F {X : fx_Sc} {M M' : fx_M} {r : Option fx_V} {x1 x2 x3 x4 x5 x6 : Int} {v7 v8 : fx_V} (g : (-2147483648 ≤ x6 ∧ x6 < 2147483648)) (h : x6 ≤ 1) (k : Ev X 26 28 [fx_f 0, .inl (x1), .inl (x2), .inl (x3), .inl (x4), .inl (x5), .inl (x6), v7, v8] [] M r M') : Ev X 26 25 [fx_f 0, .inl (x1), .inl (x2), .inl (x3), .inl (x4), .inl (x5), .inl (x6), v7, v8] [] M r M' := by
  refine Ev.run 2 fd_e26 (i' := 27) (ls' := [fx_f 0, .inl (x1), .inl (x2), .inl (x3), .inl (x4), .inl (x5), .inl (x6), v7, v8]) (st' := [.inl (1), .inl (x6)]) (M1 := M) rfl ?_
  refine Ev.icF fd_e26 rfl g (by decide) (decide_eq_false (Int.not_lt.mpr h)) ?_
  exact k
theorem r26_28 {X : fx_Sc} {M M' : fx_M} {r : Option fx_V} {x1 x2 x3 x4 x5 x6 z : Int} {v7 v8 : fx_V} {M1 : fx_M} (hc : Ev X 86 0 [fx_f 1, .inl (x1), .inl ((x6 * x5)), fx_u, fx_u, fx_u] [] M (some (.inl z)) M1) (k : Ev X 26 37 [fx_f 0, .inl (x1), .inl (x2), .inl (x3), .inl (x4), .inl (x5), .inl (x6), .inl ((x6 * x5)), v8] [.inl (z)] M1 r M') : Ev X 26 28 [fx_f 0, .inl (x1), .inl (x2), .inl (x3), .inl (x4), .inl (x5), .inl (x6), v7, v8] [] M r M' := by
  refine Ev.run 8 fd_e26 (i' := 36) (ls' := [fx_f 0, .inl (x1), .inl (x2), .inl (x3), .inl (x4), .inl (x5), .inl (x6), .inl ((x6 * x5)), v8]) (st' := [.inl ((x6 * x5)), .inl (x1), fx_f 1]) (M1 := M) rfl ?_
  refine Ev.callV (vs := [fx_f 1, .inl (x1), .inl ((x6 * x5))]) (rest := []) (r1 := (some (.inl z))) fd_e26 rfl rfl rfl (Nat.le_of_ble_eq_true rfl) (Nat.le_of_ble_eq_true rfl) (fd_rcvS fd_is1) hc ?_
  exact k
theorem r26_37T {X : fx_Sc} {M M' : fx_M} {r : Option fx_V} {x1 x2 x3 x4 x5 x6 x7 s0 : Int} {v8 : fx_V} (g : (-2147483648 ≤ s0 ∧ s0 < 2147483648)) (h : s0 = 0) (k : Ev X 26 50 [fx_f 0, .inl (x1), .inl (x2), .inl (x3), .inl (x4), .inl (x5), .inl (x6), .inl (x7), v8] [] M r M') : Ev X 26 37 [fx_f 0, .inl (x1), .inl (x2), .inl (x3), .inl (x4), .inl (x5), .inl (x6), .inl (x7), v8] [.inl (s0)] M r M' := by
  refine Ev.ifT fd_e26 rfl g (decide_eq_true h) ?_
  exact k
theorem r26_37F {X : fx_Sc} {M M' : fx_M} {r : Option fx_V} {x1 x2 x3 x4 x5 x6 x7 s0 : Int} {v8 : fx_V} (g : (-2147483648 ≤ s0 ∧ s0 < 2147483648)) (h : s0 ≠ 0) (k : Ev X 26 38 [fx_f 0, .inl (x1), .inl (x2), .inl (x3), .inl (x4), .inl (x5), .inl (x6), .inl (x7), v8] [] M r M') : Ev X 26 37 [fx_f 0, .inl (x1), .inl (x2), .inl (x3), .inl (x4), .inl (x5), .inl (x6), .inl (x7), v8] [.inl (s0)] M r M' := by
  refine Ev.ifF fd_e26 rfl g (decide_eq_false h) ?_
  exact k
theorem r26_38 {X : fx_Sc} {M M' : fx_M} {r : Option fx_V} {x1 x2 x3 x4 x5 x6 x7 z : Int} {v8 : fx_V} {M1 : fx_M} (hc : Ev X 27 0 [fx_f 0, .inl (x1), .inl (x7)] [] M (some (.inl z)) M1) (k : Ev X 26 42 [fx_f 0, .inl (x1), .inl (x2), .inl (x3), .inl (x4), .inl (x5), .inl (x6), .inl (x7), v8] [.inl (z)] M1 r M') : Ev X 26 38 [fx_f 0, .inl (x1), .inl (x2), .inl (x3), .inl (x4), .inl (x5), .inl (x6), .inl (x7), v8] [] M r M' := by
  refine Ev.run 3 fd_e26 (i' := 41) (ls' := [fx_f 0, .inl (x1), .inl (x2), .inl (x3), .inl (x4), .inl (x5), .inl (x6), .inl (x7), v8]) (st' := [.inl (x7), .inl (x1), fx_f 0]) (M1 := M) rfl ?_
  refine Ev.callV (vs := [fx_f 0, .inl (x1), .inl (x7)]) (rest := []) (r1 := (some (.inl z))) fd_e26 rfl rfl rfl (Nat.le_of_ble_eq_true rfl) (Nat.le_of_ble_eq_true rfl) rfl hc ?_
  exact k
theorem r26_42T {X : fx_Sc} {M M' : fx_M} {r : Option fx_V} {x1 x2 x3 x4 x5 x6 x7 s0 : Int} {v8 : fx_V} (g : (-2147483648 ≤ s0 ∧ s0 < 2147483648) ∧ (-2147483648 ≤ x4 ∧ x4 < 2147483648)) (h : x4 ≤ s0) (k : Ev X 26 50 [fx_f 0, .inl (x1), .inl (x2), .inl (x3), .inl (x4), .inl (x5), .inl (x6), .inl (x7), .inl (s0)] [] M r M') : Ev X 26 42 [fx_f 0, .inl (x1), .inl (x2), .inl (x3), .inl (x4), .inl (x5), .inl (x6), .inl (x7), v8] [.inl (s0)] M r M' := by
  refine Ev.run 3 fd_e26 (i' := 45) (ls' := [fx_f 0, .inl (x1), .inl (x2), .inl (x3), .inl (x4), .inl (x5), .inl (x6), .inl (x7), .inl (s0)]) (st' := [.inl (x4), .inl (s0)]) (M1 := M) rfl ?_
  refine Ev.icT fd_e26 rfl g.1 g.2 (decide_eq_true h) ?_
  exact k
theorem r26_42F {X : fx_Sc} {M M' : fx_M} {r : Option fx_V} {x1 x2 x3 x4 x5 x6 x7 s0 : Int} {v8 : fx_V} (g : (-2147483648 ≤ s0 ∧ s0 < 2147483648) ∧ (-2147483648 ≤ x4 ∧ x4 < 2147483648)) (h : s0 < x4) (k : Ev X 26 46 [fx_f 0, .inl (x1), .inl (x2), .inl (x3), .inl (x4), .inl (x5), .inl (x6), .inl (x7), .inl (s0)] [] M r M') : Ev X 26 42 [fx_f 0, .inl (x1), .inl (x2), .inl (x3), .inl (x4), .inl (x5), .inl (x6), .inl (x7), v8] [.inl (s0)] M r M' := by
  refine Ev.run 3 fd_e26 (i' := 45) (ls' := [fx_f 0, .inl (x1), .inl (x2), .inl (x3), .inl (x4), .inl (x5), .inl (x6), .inl (x7), .inl (s0)]) (st' := [.inl (x4), .inl (s0)]) (M1 := M) rfl ?_
  refine Ev.icF fd_e26 rfl g.1 g.2 (decide_eq_false (Int.not_le.mpr h)) ?_
  exact k
theorem r26_46 {X : fx_Sc} {M M' : fx_M} {r : Option fx_V} {x1 x2 x3 x4 x5 x6 x7 x8 : Int} (k : Ev X 26 25 [fx_f 0, .inl (x1), .inl (x2), .inl (x7), .inl (x8), .inl (x5), .inl ((x6 + 2)), .inl (x7), .inl (x8)] [] M r M') : Ev X 26 46 [fx_f 0, .inl (x1), .inl (x2), .inl (x3), .inl (x4), .inl (x5), .inl (x6), .inl (x7), .inl (x8)] [] M r M' := by
  refine Ev.run 6 fd_e26 (i' := 25) (ls' := [fx_f 0, .inl (x1), .inl (x2), .inl (x7), .inl (x8), .inl (x5), .inl ((x6 + 2)), .inl (x7), .inl (x8)]) (st' := []) (M1 := M) rfl ?_
  exact k
theorem r26_50 {X : fx_Sc} {M M' : fx_M} {r : Option fx_V} {x1 x2 x3 x4 x5 x6 x7 : Int} {v8 : fx_V} (k : Ev X 26 25 [fx_f 0, .inl (x1), .inl (x2), .inl (x3), .inl (x4), .inl (x5), .inl ((x6 + 2)), .inl (x7), v8] [] M r M') : Ev X 26 50 [fx_f 0, .inl (x1), .inl (x2), .inl (x3), .inl (x4), .inl (x5), .inl (x6), .inl (x7), v8] [] M r M' := by
  refine Ev.run 2 fd_e26 (i' := 25) (ls' := [fx_f 0, .inl (x1), .inl (x2), .inl (x3), .inl (x4), .inl (x5), .inl ((x6 + 2)), .inl (x7), v8]) (st' := []) (M1 := M) rfl ?_
  exact k
theorem r26_52 {X : fx_Sc} {M M' : fx_M} {r : Option fx_V} {x1 x2 x3 x4 x5 x6 : Int} {v7 v8 : fx_V} (k : Ev X 26 20 [fx_f 0, .inl (x1), .inl (x2), .inl (x3), .inl (x4), .inl ((x5 + 1)), .inl (x6), v7, v8] [] M r M') : Ev X 26 52 [fx_f 0, .inl (x1), .inl (x2), .inl (x3), .inl (x4), .inl (x5), .inl (x6), v7, v8] [] M r M' := by
  refine Ev.run 2 fd_e26 (i' := 20) (ls' := [fx_f 0, .inl (x1), .inl (x2), .inl (x3), .inl (x4), .inl ((x5 + 1)), .inl (x6), v7, v8]) (st' := []) (M1 := M) rfl ?_
  exact k
theorem r26_54T {X : fx_Sc} {M M' : fx_M} {r : Option fx_V} {x1 x2 x3 x4 x5 : Int} {v6 v7 v8 : fx_V} (g : (-2147483648 ≤ x2 ∧ x2 < 2147483648)) (h : x2 ≠ 0) (k : Ev X 26 60 [fx_f 0, .inl (x1), .inl (x2), .inl (x3), .inl (x4), .inl (x5), v6, v7, v8] [] M r M') : Ev X 26 54 [fx_f 0, .inl (x1), .inl (x2), .inl (x3), .inl (x4), .inl (x5), v6, v7, v8] [] M r M' := by
  refine Ev.run 1 fd_e26 (i' := 55) (ls' := [fx_f 0, .inl (x1), .inl (x2), .inl (x3), .inl (x4), .inl (x5), v6, v7, v8]) (st' := [.inl (x2)]) (M1 := M) rfl ?_
  refine Ev.ifT fd_e26 rfl g (decide_eq_true h) ?_
  exact k
theorem r26_54F {X : fx_Sc} {M M' : fx_M} {r : Option fx_V} {x1 x2 x3 x4 x5 : Int} {v6 v7 v8 : fx_V} (g : (-2147483648 ≤ x2 ∧ x2 < 2147483648)) (h : x2 = 0) (k : Ev X 26 56 [fx_f 0, .inl (x1), .inl (x2), .inl (x3), .inl (x4), .inl (x5), v6, v7, v8] [] M r M') : Ev X 26 54 [fx_f 0, .inl (x1), .inl (x2), .inl (x3), .inl (x4), .inl (x5), v6, v7, v8] [] M r M' := by
  refine Ev.run 1 fd_e26 (i' := 55) (ls' := [fx_f 0, .inl (x1), .inl (x2), .inl (x3), .inl (x4), .inl (x5), v6, v7, v8]) (st' := [.inl (x2)]) (M1 := M) rfl ?_
  refine Ev.ifF fd_e26 rfl g (decide_eq_false (not_not_intro h)) ?_
  exact k
theorem r26_56 {X : fx_Sc} {M : fx_M} {x1 x2 x3 x4 x5 : Int} {v6 v7 v8 : fx_V} : Ev X 26 56 [fx_f 0, .inl (x1), .inl (x2), .inl (x3), .inl (x4), .inl (x5), v6, v7, v8] [] M (some (.inl ((20 + x3)))) M := by
  refine Ev.run 4 fd_e26 (i' := 61) (ls' := [fx_f 0, .inl (x1), .inl (x2), .inl (x3), .inl (x4), .inl (x5), v6, v7, v8]) (st' := [.inl ((20 + x3))]) (M1 := M) rfl ?_
  exact Ev.ret1 fd_e26 rfl rfl
theorem r26_60 {X : fx_Sc} {M : fx_M} {x1 x2 x3 x4 x5 : Int} {v6 v7 v8 : fx_V} : Ev X 26 60 [fx_f 0, .inl (x1), .inl (x2), .inl (x3), .inl (x4), .inl (x5), v6, v7, v8] [] M (some (.inl (x4))) M := by
  refine Ev.run 1 fd_e26 (i' := 61) (ls' := [fx_f 0, .inl (x1), .inl (x2), .inl (x3), .inl (x4), .inl (x5), v6, v7, v8]) (st' := [.inl (x4)]) (M1 := M) rfl ?_
  exact Ev.ret1 fd_e26 rfl rfl
-- 27: FoldedStrips.looseEndsIfSlid(II)I
theorem fd_e27 : fd_C 27 = fd_c27 := rfl
theorem r27_0 {X : fx_Sc} {M M' : fx_M} {r : Option fx_V} {x1 x2 : Int} {M1 : fx_M} (hc : Ev X 77 0 [fx_f 5, fx_f 1] [] M none M1) (k : Ev X 27 5 [fx_f 0, .inl (x1), .inl (x2)] [] M1 r M') : Ev X 27 0 [fx_f 0, .inl (x1), .inl (x2)] [] M r M' := by
  refine Ev.run 4 fd_e27 (i' := 4) (ls' := [fx_f 0, .inl (x1), .inl (x2)]) (st' := [fx_f 1, fx_f 5]) (M1 := M) rfl ?_
  refine Ev.callV (vs := [fx_f 5, fx_f 1]) (rest := []) (r1 := none) fd_e27 rfl rfl rfl (Nat.le_of_ble_eq_true rfl) (Nat.le_of_ble_eq_true rfl) (fd_rcvS fd_is5) hc ?_
  exact k
theorem r27_5 {X : fx_Sc} {M M' : fx_M} {r : Option fx_V} {x1 x2 : Int} {M1 : fx_M} (hc : Ev X 87 0 [fx_f 5, .inl (x1), .inl (x2), fx_u] [] M none M1) (k : Ev X 27 10 [fx_f 0, .inl (x1), .inl (x2)] [] M1 r M') : Ev X 27 5 [fx_f 0, .inl (x1), .inl (x2)] [] M r M' := by
  refine Ev.run 4 fd_e27 (i' := 9) (ls' := [fx_f 0, .inl (x1), .inl (x2)]) (st' := [.inl (x2), .inl (x1), fx_f 5]) (M1 := M) rfl ?_
  refine Ev.callV (vs := [fx_f 5, .inl (x1), .inl (x2)]) (rest := []) (r1 := none) fd_e27 rfl rfl rfl (Nat.le_of_ble_eq_true rfl) (Nat.le_of_ble_eq_true rfl) (fd_rcvS fd_is5) hc ?_
  exact k
theorem r27_10 {X : fx_Sc} {M M' : fx_M} {r : Option fx_V} {x1 x2 z : Int} {M1 : fx_M} (hc : Ev X 89 0 [fx_f 5, fx_u, fx_u] [] M (some (.inl z)) M1) (k : Ev X 27 13 [fx_f 0, .inl (x1), .inl (x2)] [.inl (z)] M1 r M') : Ev X 27 10 [fx_f 0, .inl (x1), .inl (x2)] [] M r M' := by
  refine Ev.run 2 fd_e27 (i' := 12) (ls' := [fx_f 0, .inl (x1), .inl (x2)]) (st' := [fx_f 5]) (M1 := M) rfl ?_
  refine Ev.callV (vs := [fx_f 5]) (rest := []) (r1 := (some (.inl z))) fd_e27 rfl rfl rfl (Nat.le_of_ble_eq_true rfl) (Nat.le_of_ble_eq_true rfl) (fd_rcvS fd_is5) hc ?_
  exact k
theorem r27_13 {X : fx_Sc} {M : fx_M} {x1 x2 s0 : Int} : Ev X 27 13 [fx_f 0, .inl (x1), .inl (x2)] [.inl (s0)] M (some (.inl (s0))) M := by
  exact Ev.ret1 fd_e27 rfl rfl
-- 28: FoldedStrips.bestExchange(I)I
theorem fd_e28 : fd_C 28 = fd_c28 := rfl
theorem r28_0T {X : fx_Sc} {M M' : fx_M} {r : Option fx_V} {x1 : Int} (g : (-2147483648 ≤ x1 ∧ x1 < 2147483648)) (h : x1 = 0) (k : Ev X 28 7 [fx_f 0, .inl (x1), fx_u, fx_u, fx_u, fx_u, fx_u] [] M r M') : Ev X 28 0 [fx_f 0, .inl (x1), fx_u, fx_u, fx_u, fx_u, fx_u] [] M r M' := by
  refine Ev.run 1 fd_e28 (i' := 1) (ls' := [fx_f 0, .inl (x1), fx_u, fx_u, fx_u, fx_u, fx_u]) (st' := [.inl (x1)]) (M1 := M) rfl ?_
  refine Ev.ifT fd_e28 rfl g (decide_eq_true h) ?_
  exact k
theorem r28_0F {X : fx_Sc} {M M' : fx_M} {r : Option fx_V} {x1 : Int} (g : (-2147483648 ≤ x1 ∧ x1 < 2147483648)) (h : x1 ≠ 0) (k : Ev X 28 2 [fx_f 0, .inl (x1), fx_u, fx_u, fx_u, fx_u, fx_u] [] M r M') : Ev X 28 0 [fx_f 0, .inl (x1), fx_u, fx_u, fx_u, fx_u, fx_u] [] M r M' := by
  refine Ev.run 1 fd_e28 (i' := 1) (ls' := [fx_f 0, .inl (x1), fx_u, fx_u, fx_u, fx_u, fx_u]) (st' := [.inl (x1)]) (M1 := M) rfl ?_
  refine Ev.ifF fd_e28 rfl g (decide_eq_false h) ?_
  exact k
theorem r28_2T {X : fx_Sc} {M M' : fx_M} {r : Option fx_V} {x1 : Int} (g : (-2147483648 ≤ x1 ∧ x1 < 2147483648)) (h : x1 = 1) (k : Ev X 28 7 [fx_f 0, .inl (x1), fx_u, fx_u, fx_u, fx_u, fx_u] [] M r M') : Ev X 28 2 [fx_f 0, .inl (x1), fx_u, fx_u, fx_u, fx_u, fx_u] [] M r M' := by
  refine Ev.run 2 fd_e28 (i' := 4) (ls' := [fx_f 0, .inl (x1), fx_u, fx_u, fx_u, fx_u, fx_u]) (st' := [.inl (1), .inl (x1)]) (M1 := M) rfl ?_
  refine Ev.icT fd_e28 rfl g (by decide) (decide_eq_true h) ?_
  exact k
theorem r28_2F {X : fx_Sc} {M M' : fx_M} {r : Option fx_V} {x1 : Int} (g : (-2147483648 ≤ x1 ∧ x1 < 2147483648)) (h : x1 ≠ 1) (k : Ev X 28 5 [fx_f 0, .inl (x1), fx_u, fx_u, fx_u, fx_u, fx_u] [] M r M') : Ev X 28 2 [fx_f 0, .inl (x1), fx_u, fx_u, fx_u, fx_u, fx_u] [] M r M' := by
  refine Ev.run 2 fd_e28 (i' := 4) (ls' := [fx_f 0, .inl (x1), fx_u, fx_u, fx_u, fx_u, fx_u]) (st' := [.inl (1), .inl (x1)]) (M1 := M) rfl ?_
  refine Ev.icF fd_e28 rfl g (by decide) (decide_eq_false h) ?_
  exact k
theorem r28_5 {X : fx_Sc} {M : fx_M} {x1 : Int} : Ev X 28 5 [fx_f 0, .inl (x1), fx_u, fx_u, fx_u, fx_u, fx_u] [] M (some (.inl ((-2)))) M := by
  refine Ev.run 1 fd_e28 (i' := 6) (ls' := [fx_f 0, .inl (x1), fx_u, fx_u, fx_u, fx_u, fx_u]) (st' := [.inl ((-2))]) (M1 := M) rfl ?_
  exact Ev.ret1 fd_e28 rfl rfl
theorem r28_7 {X : fx_Sc} {M M' : fx_M} {r : Option fx_V} {x1 : Int} (k : Ev X 28 13 [fx_f 0, .inl (x1), .inl (0), .inl (145), .inl (0), fx_u, fx_u] [] M r M') : Ev X 28 7 [fx_f 0, .inl (x1), fx_u, fx_u, fx_u, fx_u, fx_u] [] M r M' := by
  refine Ev.run 6 fd_e28 (i' := 13) (ls' := [fx_f 0, .inl (x1), .inl (0), .inl (145), .inl (0), fx_u, fx_u]) (st' := []) (M1 := M) rfl ?_
  exact k
theorem r28_13T {X : fx_Sc} {M M' : fx_M} {r : Option fx_V} {x1 x2 x3 x4 : Int} {v5 v6 : fx_V} (g : (-2147483648 ≤ x4 ∧ x4 < 2147483648)) (h : 6 ≤ x4) (k : Ev X 28 43 [fx_f 0, .inl (x1), .inl (x2), .inl (x3), .inl (x4), v5, v6] [] M r M') : Ev X 28 13 [fx_f 0, .inl (x1), .inl (x2), .inl (x3), .inl (x4), v5, v6] [] M r M' := by
  refine Ev.run 2 fd_e28 (i' := 15) (ls' := [fx_f 0, .inl (x1), .inl (x2), .inl (x3), .inl (x4), v5, v6]) (st' := [.inl (6), .inl (x4)]) (M1 := M) rfl ?_
  refine Ev.icT fd_e28 rfl g (by decide) (decide_eq_true h) ?_
  exact k
theorem r28_13F {X : fx_Sc} {M M' : fx_M} {r : Option fx_V} {x1 x2 x3 x4 : Int} {v5 v6 : fx_V} (g : (-2147483648 ≤ x4 ∧ x4 < 2147483648)) (h : x4 < 6) (k : Ev X 28 16 [fx_f 0, .inl (x1), .inl (x2), .inl (x3), .inl (x4), v5, v6] [] M r M') : Ev X 28 13 [fx_f 0, .inl (x1), .inl (x2), .inl (x3), .inl (x4), v5, v6] [] M r M' := by
  refine Ev.run 2 fd_e28 (i' := 15) (ls' := [fx_f 0, .inl (x1), .inl (x2), .inl (x3), .inl (x4), v5, v6]) (st' := [.inl (6), .inl (x4)]) (M1 := M) rfl ?_
  refine Ev.icF fd_e28 rfl g (by decide) (decide_eq_false (Int.not_le.mpr h)) ?_
  exact k
theorem r28_16 {X : fx_Sc} {M M' : fx_M} {r : Option fx_V} {x1 x2 x3 x4 : Int} {v5 v6 : fx_V} (k : Ev X 28 20 [fx_f 0, .inl (x1), .inl (x2), .inl (x3), .inl (x4), .inl ((x4 + 1)), v6] [] M r M') : Ev X 28 16 [fx_f 0, .inl (x1), .inl (x2), .inl (x3), .inl (x4), v5, v6] [] M r M' := by
  refine Ev.run 4 fd_e28 (i' := 20) (ls' := [fx_f 0, .inl (x1), .inl (x2), .inl (x3), .inl (x4), .inl ((x4 + 1)), v6]) (st' := []) (M1 := M) rfl ?_
  exact k
theorem r28_20T {X : fx_Sc} {M M' : fx_M} {r : Option fx_V} {x1 x2 x3 x4 x5 : Int} {v6 : fx_V} (g : (-2147483648 ≤ x5 ∧ x5 < 2147483648)) (h : 6 ≤ x5) (k : Ev X 28 41 [fx_f 0, .inl (x1), .inl (x2), .inl (x3), .inl (x4), .inl (x5), v6] [] M r M') : Ev X 28 20 [fx_f 0, .inl (x1), .inl (x2), .inl (x3), .inl (x4), .inl (x5), v6] [] M r M' := by
  refine Ev.run 2 fd_e28 (i' := 22) (ls' := [fx_f 0, .inl (x1), .inl (x2), .inl (x3), .inl (x4), .inl (x5), v6]) (st' := [.inl (6), .inl (x5)]) (M1 := M) rfl ?_
  refine Ev.icT fd_e28 rfl g (by decide) (decide_eq_true h) ?_
  exact k
theorem r28_20F {X : fx_Sc} {M M' : fx_M} {r : Option fx_V} {x1 x2 x3 x4 x5 : Int} {v6 : fx_V} (g : (-2147483648 ≤ x5 ∧ x5 < 2147483648)) (h : x5 < 6) (k : Ev X 28 23 [fx_f 0, .inl (x1), .inl (x2), .inl (x3), .inl (x4), .inl (x5), v6] [] M r M') : Ev X 28 20 [fx_f 0, .inl (x1), .inl (x2), .inl (x3), .inl (x4), .inl (x5), v6] [] M r M' := by
  refine Ev.run 2 fd_e28 (i' := 22) (ls' := [fx_f 0, .inl (x1), .inl (x2), .inl (x3), .inl (x4), .inl (x5), v6]) (st' := [.inl (6), .inl (x5)]) (M1 := M) rfl ?_
  refine Ev.icF fd_e28 rfl g (by decide) (decide_eq_false (Int.not_le.mpr h)) ?_
  exact k
theorem r28_23 {X : fx_Sc} {M M' : fx_M} {r : Option fx_V} {x1 x2 x3 x4 x5 z : Int} {v6 : fx_V} {M1 : fx_M} (hc : Ev X 29 0 [fx_f 0, .inl (x4), .inl (x5)] [] M (some (.inl z)) M1) (k : Ev X 28 27 [fx_f 0, .inl (x1), .inl (x2), .inl (x3), .inl (x4), .inl (x5), v6] [.inl (z)] M1 r M') : Ev X 28 23 [fx_f 0, .inl (x1), .inl (x2), .inl (x3), .inl (x4), .inl (x5), v6] [] M r M' := by
  refine Ev.run 3 fd_e28 (i' := 26) (ls' := [fx_f 0, .inl (x1), .inl (x2), .inl (x3), .inl (x4), .inl (x5), v6]) (st' := [.inl (x5), .inl (x4), fx_f 0]) (M1 := M) rfl ?_
  refine Ev.callV (vs := [fx_f 0, .inl (x4), .inl (x5)]) (rest := []) (r1 := (some (.inl z))) fd_e28 rfl rfl rfl (Nat.le_of_ble_eq_true rfl) (Nat.le_of_ble_eq_true rfl) rfl hc ?_
  exact k
theorem r28_27T {X : fx_Sc} {M M' : fx_M} {r : Option fx_V} {x1 x2 x3 x4 x5 s0 : Int} {v6 : fx_V} (g : (-2147483648 ≤ s0 ∧ s0 < 2147483648) ∧ (-2147483648 ≤ x3 ∧ x3 < 2147483648)) (h : x3 ≤ s0) (k : Ev X 28 39 [fx_f 0, .inl (x1), .inl (x2), .inl (x3), .inl (x4), .inl (x5), .inl (s0)] [] M r M') : Ev X 28 27 [fx_f 0, .inl (x1), .inl (x2), .inl (x3), .inl (x4), .inl (x5), v6] [.inl (s0)] M r M' := by
  refine Ev.run 3 fd_e28 (i' := 30) (ls' := [fx_f 0, .inl (x1), .inl (x2), .inl (x3), .inl (x4), .inl (x5), .inl (s0)]) (st' := [.inl (x3), .inl (s0)]) (M1 := M) rfl ?_
  refine Ev.icT fd_e28 rfl g.1 g.2 (decide_eq_true h) ?_
  exact k
theorem r28_27F {X : fx_Sc} {M M' : fx_M} {r : Option fx_V} {x1 x2 x3 x4 x5 s0 : Int} {v6 : fx_V} (g : (-2147483648 ≤ s0 ∧ s0 < 2147483648) ∧ (-2147483648 ≤ x3 ∧ x3 < 2147483648)) (h : s0 < x3) (k : Ev X 28 31 [fx_f 0, .inl (x1), .inl (x2), .inl (x3), .inl (x4), .inl (x5), .inl (s0)] [] M r M') : Ev X 28 27 [fx_f 0, .inl (x1), .inl (x2), .inl (x3), .inl (x4), .inl (x5), v6] [.inl (s0)] M r M' := by
  refine Ev.run 3 fd_e28 (i' := 30) (ls' := [fx_f 0, .inl (x1), .inl (x2), .inl (x3), .inl (x4), .inl (x5), .inl (s0)]) (st' := [.inl (x3), .inl (s0)]) (M1 := M) rfl ?_
  refine Ev.icF fd_e28 rfl g.1 g.2 (decide_eq_false (Int.not_le.mpr h)) ?_
  exact k
theorem r28_31 {X : fx_Sc} {M M' : fx_M} {r : Option fx_V} {x1 x2 x3 x4 x5 x6 : Int} (k : Ev X 28 20 [fx_f 0, .inl (x1), .inl (((10 * x4) + x5)), .inl (x6), .inl (x4), .inl ((x5 + 1)), .inl (x6)] [] M r M') : Ev X 28 31 [fx_f 0, .inl (x1), .inl (x2), .inl (x3), .inl (x4), .inl (x5), .inl (x6)] [] M r M' := by
  refine Ev.run 10 fd_e28 (i' := 20) (ls' := [fx_f 0, .inl (x1), .inl (((10 * x4) + x5)), .inl (x6), .inl (x4), .inl ((x5 + 1)), .inl (x6)]) (st' := []) (M1 := M) rfl ?_
  exact k
theorem r28_39 {X : fx_Sc} {M M' : fx_M} {r : Option fx_V} {x1 x2 x3 x4 x5 x6 : Int} (k : Ev X 28 20 [fx_f 0, .inl (x1), .inl (x2), .inl (x3), .inl (x4), .inl ((x5 + 1)), .inl (x6)] [] M r M') : Ev X 28 39 [fx_f 0, .inl (x1), .inl (x2), .inl (x3), .inl (x4), .inl (x5), .inl (x6)] [] M r M' := by
  refine Ev.run 2 fd_e28 (i' := 20) (ls' := [fx_f 0, .inl (x1), .inl (x2), .inl (x3), .inl (x4), .inl ((x5 + 1)), .inl (x6)]) (st' := []) (M1 := M) rfl ?_
  exact k
theorem r28_41 {X : fx_Sc} {M M' : fx_M} {r : Option fx_V} {x1 x2 x3 x4 x5 : Int} {v6 : fx_V} (k : Ev X 28 13 [fx_f 0, .inl (x1), .inl (x2), .inl (x3), .inl ((x4 + 1)), .inl (x5), v6] [] M r M') : Ev X 28 41 [fx_f 0, .inl (x1), .inl (x2), .inl (x3), .inl (x4), .inl (x5), v6] [] M r M' := by
  refine Ev.run 2 fd_e28 (i' := 13) (ls' := [fx_f 0, .inl (x1), .inl (x2), .inl (x3), .inl ((x4 + 1)), .inl (x5), v6]) (st' := []) (M1 := M) rfl ?_
  exact k
theorem r28_43T {X : fx_Sc} {M M' : fx_M} {r : Option fx_V} {x1 x2 x3 x4 : Int} {v5 v6 : fx_V} (g : (-2147483648 ≤ x1 ∧ x1 < 2147483648)) (h : x1 ≠ 0) (k : Ev X 28 47 [fx_f 0, .inl (x1), .inl (x2), .inl (x3), .inl (x4), v5, v6] [] M r M') : Ev X 28 43 [fx_f 0, .inl (x1), .inl (x2), .inl (x3), .inl (x4), v5, v6] [] M r M' := by
  refine Ev.run 1 fd_e28 (i' := 44) (ls' := [fx_f 0, .inl (x1), .inl (x2), .inl (x3), .inl (x4), v5, v6]) (st' := [.inl (x1)]) (M1 := M) rfl ?_
  refine Ev.ifT fd_e28 rfl g (decide_eq_true h) ?_
  exact k
theorem r28_43F {X : fx_Sc} {M M' : fx_M} {r : Option fx_V} {x1 x2 x3 x4 : Int} {v5 v6 : fx_V} (g : (-2147483648 ≤ x1 ∧ x1 < 2147483648)) (h : x1 = 0) (k : Ev X 28 45 [fx_f 0, .inl (x1), .inl (x2), .inl (x3), .inl (x4), v5, v6] [] M r M') : Ev X 28 43 [fx_f 0, .inl (x1), .inl (x2), .inl (x3), .inl (x4), v5, v6] [] M r M' := by
  refine Ev.run 1 fd_e28 (i' := 44) (ls' := [fx_f 0, .inl (x1), .inl (x2), .inl (x3), .inl (x4), v5, v6]) (st' := [.inl (x1)]) (M1 := M) rfl ?_
  refine Ev.ifF fd_e28 rfl g (decide_eq_false (not_not_intro h)) ?_
  exact k
theorem r28_45 {X : fx_Sc} {M : fx_M} {x1 x2 x3 x4 : Int} {v5 v6 : fx_V} : Ev X 28 45 [fx_f 0, .inl (x1), .inl (x2), .inl (x3), .inl (x4), v5, v6] [] M (some (.inl (x2))) M := by
  refine Ev.run 2 fd_e28 (i' := 48) (ls' := [fx_f 0, .inl (x1), .inl (x2), .inl (x3), .inl (x4), v5, v6]) (st' := [.inl (x2)]) (M1 := M) rfl ?_
  exact Ev.ret1 fd_e28 rfl rfl
theorem r28_47 {X : fx_Sc} {M : fx_M} {x1 x2 x3 x4 : Int} {v5 v6 : fx_V} : Ev X 28 47 [fx_f 0, .inl (x1), .inl (x2), .inl (x3), .inl (x4), v5, v6] [] M (some (.inl (x3))) M := by
  refine Ev.run 1 fd_e28 (i' := 48) (ls' := [fx_f 0, .inl (x1), .inl (x2), .inl (x3), .inl (x4), v5, v6]) (st' := [.inl (x3)]) (M1 := M) rfl ?_
  exact Ev.ret1 fd_e28 rfl rfl
-- 29: FoldedStrips.looseEndsIfExchanged(II)I
theorem fd_e29 : fd_C 29 = fd_c29 := rfl
theorem r29_0 {X : fx_Sc} {M M' : fx_M} {r : Option fx_V} {x1 x2 : Int} {M1 : fx_M} (hc : Ev X 77 0 [fx_f 5, fx_f 1] [] M none M1) (k : Ev X 29 5 [fx_f 0, .inl (x1), .inl (x2)] [] M1 r M') : Ev X 29 0 [fx_f 0, .inl (x1), .inl (x2)] [] M r M' := by
  refine Ev.run 4 fd_e29 (i' := 4) (ls' := [fx_f 0, .inl (x1), .inl (x2)]) (st' := [fx_f 1, fx_f 5]) (M1 := M) rfl ?_
  refine Ev.callV (vs := [fx_f 5, fx_f 1]) (rest := []) (r1 := none) fd_e29 rfl rfl rfl (Nat.le_of_ble_eq_true rfl) (Nat.le_of_ble_eq_true rfl) (fd_rcvS fd_is5) hc ?_
  exact k
theorem r29_5 {X : fx_Sc} {M M' : fx_M} {r : Option fx_V} {x1 x2 : Int} {M1 : fx_M} (hc : Ev X 94 0 [fx_f 5, .inl (x1), .inl (x2), fx_u, fx_u] [] M none M1) (k : Ev X 29 10 [fx_f 0, .inl (x1), .inl (x2)] [] M1 r M') : Ev X 29 5 [fx_f 0, .inl (x1), .inl (x2)] [] M r M' := by
  refine Ev.run 4 fd_e29 (i' := 9) (ls' := [fx_f 0, .inl (x1), .inl (x2)]) (st' := [.inl (x2), .inl (x1), fx_f 5]) (M1 := M) rfl ?_
  refine Ev.callV (vs := [fx_f 5, .inl (x1), .inl (x2)]) (rest := []) (r1 := none) fd_e29 rfl rfl rfl (Nat.le_of_ble_eq_true rfl) (Nat.le_of_ble_eq_true rfl) (fd_rcvS fd_is5) hc ?_
  exact k
theorem r29_10 {X : fx_Sc} {M M' : fx_M} {r : Option fx_V} {x1 x2 z : Int} {M1 : fx_M} (hc : Ev X 89 0 [fx_f 5, fx_u, fx_u] [] M (some (.inl z)) M1) (k : Ev X 29 13 [fx_f 0, .inl (x1), .inl (x2)] [.inl (z)] M1 r M') : Ev X 29 10 [fx_f 0, .inl (x1), .inl (x2)] [] M r M' := by
  refine Ev.run 2 fd_e29 (i' := 12) (ls' := [fx_f 0, .inl (x1), .inl (x2)]) (st' := [fx_f 5]) (M1 := M) rfl ?_
  refine Ev.callV (vs := [fx_f 5]) (rest := []) (r1 := (some (.inl z))) fd_e29 rfl rfl rfl (Nat.le_of_ble_eq_true rfl) (Nat.le_of_ble_eq_true rfl) (fd_rcvS fd_is5) hc ?_
  exact k
theorem r29_13 {X : fx_Sc} {M : fx_M} {x1 x2 s0 : Int} : Ev X 29 13 [fx_f 0, .inl (x1), .inl (x2)] [.inl (s0)] M (some (.inl (s0))) M := by
  exact Ev.ret1 fd_e29 rfl rfl
-- 30: FoldedStrips.ifTurned(III)I
theorem fd_e30 : fd_C 30 = fd_c30 := rfl
theorem r30_0 {X : fx_Sc} {M M' : fx_M} {r : Option fx_V} {x1 x2 x3 z : Int} {M1 : fx_M} (hc : Ev X 1 0 [.inl (x1)] [] M (some (.inl z)) M1) (k : Ev X 30 2 [fx_f 0, .inl (x1), .inl (x2), .inl (x3)] [.inl (z)] M1 r M') : Ev X 30 0 [fx_f 0, .inl (x1), .inl (x2), .inl (x3)] [] M r M' := by
  refine Ev.run 1 fd_e30 (i' := 1) (ls' := [fx_f 0, .inl (x1), .inl (x2), .inl (x3)]) (st' := [.inl (x1)]) (M1 := M) rfl ?_
  refine Ev.callS (vs := [.inl (x1)]) (rest := []) (r1 := (some (.inl z))) fd_e30 rfl rfl rfl (Nat.le_of_ble_eq_true rfl) (Nat.le_of_ble_eq_true rfl) hc ?_
  exact k
theorem r30_2T {X : fx_Sc} {M M' : fx_M} {r : Option fx_V} {x1 x2 x3 s0 : Int} (g : (-2147483648 ≤ s0 ∧ s0 < 2147483648)) (h : s0 ≠ 0) (k : Ev X 30 5 [fx_f 0, .inl (x1), .inl (x2), .inl (x3)] [] M r M') : Ev X 30 2 [fx_f 0, .inl (x1), .inl (x2), .inl (x3)] [.inl (s0)] M r M' := by
  refine Ev.ifT fd_e30 rfl g (decide_eq_true h) ?_
  exact k
theorem r30_2F {X : fx_Sc} {M M' : fx_M} {r : Option fx_V} {x1 x2 x3 s0 : Int} (g : (-2147483648 ≤ s0 ∧ s0 < 2147483648)) (h : s0 = 0) (k : Ev X 30 3 [fx_f 0, .inl (x1), .inl (x2), .inl (x3)] [] M r M') : Ev X 30 2 [fx_f 0, .inl (x1), .inl (x2), .inl (x3)] [.inl (s0)] M r M' := by
  refine Ev.ifF fd_e30 rfl g (decide_eq_false (not_not_intro h)) ?_
  exact k
theorem r30_3 {X : fx_Sc} {M : fx_M} {x1 x2 x3 : Int} : Ev X 30 3 [fx_f 0, .inl (x1), .inl (x2), .inl (x3)] [] M (some (.inl ((-1)))) M := by
  refine Ev.run 1 fd_e30 (i' := 4) (ls' := [fx_f 0, .inl (x1), .inl (x2), .inl (x3)]) (st' := [.inl ((-1))]) (M1 := M) rfl ?_
  exact Ev.ret1 fd_e30 rfl rfl
theorem r30_5 {X : fx_Sc} {M M' : fx_M} {r : Option fx_V} {x1 x2 x3 z : Int} {M1 : fx_M} (hc : Ev X 13 0 [.inl (x2)] [] M (some (.inl z)) M1) (k : Ev X 30 7 [fx_f 0, .inl (x1), .inl (x2), .inl (x3)] [.inl (z)] M1 r M') : Ev X 30 5 [fx_f 0, .inl (x1), .inl (x2), .inl (x3)] [] M r M' := by
  refine Ev.run 1 fd_e30 (i' := 6) (ls' := [fx_f 0, .inl (x1), .inl (x2), .inl (x3)]) (st' := [.inl (x2)]) (M1 := M) rfl ?_
  refine Ev.callS (vs := [.inl (x2)]) (rest := []) (r1 := (some (.inl z))) fd_e30 rfl rfl rfl (Nat.le_of_ble_eq_true rfl) (Nat.le_of_ble_eq_true rfl) hc ?_
  exact k
theorem r30_7T {X : fx_Sc} {M M' : fx_M} {r : Option fx_V} {x1 x2 x3 s0 : Int} (g : (-2147483648 ≤ s0 ∧ s0 < 2147483648)) (h : s0 = 0) (k : Ev X 30 13 [fx_f 0, .inl (x1), .inl (x2), .inl (x3)] [] M r M') : Ev X 30 7 [fx_f 0, .inl (x1), .inl (x2), .inl (x3)] [.inl (s0)] M r M' := by
  refine Ev.ifT fd_e30 rfl g (decide_eq_true h) ?_
  exact k
theorem r30_7F {X : fx_Sc} {M M' : fx_M} {r : Option fx_V} {x1 x2 x3 s0 : Int} (g : (-2147483648 ≤ s0 ∧ s0 < 2147483648)) (h : s0 ≠ 0) (k : Ev X 30 8 [fx_f 0, .inl (x1), .inl (x2), .inl (x3)] [] M r M') : Ev X 30 7 [fx_f 0, .inl (x1), .inl (x2), .inl (x3)] [.inl (s0)] M r M' := by
  refine Ev.ifF fd_e30 rfl g (decide_eq_false h) ?_
  exact k
theorem r30_8T {X : fx_Sc} {M M' : fx_M} {r : Option fx_V} {x1 x2 x3 : Int} (g : (-2147483648 ≤ x3 ∧ x3 < 2147483648)) (h : x3 < 0) (k : Ev X 30 13 [fx_f 0, .inl (x1), .inl (x2), .inl (x3)] [] M r M') : Ev X 30 8 [fx_f 0, .inl (x1), .inl (x2), .inl (x3)] [] M r M' := by
  refine Ev.run 1 fd_e30 (i' := 9) (ls' := [fx_f 0, .inl (x1), .inl (x2), .inl (x3)]) (st' := [.inl (x3)]) (M1 := M) rfl ?_
  refine Ev.ifT fd_e30 rfl g (decide_eq_true h) ?_
  exact k
theorem r30_8F {X : fx_Sc} {M M' : fx_M} {r : Option fx_V} {x1 x2 x3 : Int} (g : (-2147483648 ≤ x3 ∧ x3 < 2147483648)) (h : 0 ≤ x3) (k : Ev X 30 10 [fx_f 0, .inl (x1), .inl (x2), .inl (x3)] [] M r M') : Ev X 30 8 [fx_f 0, .inl (x1), .inl (x2), .inl (x3)] [] M r M' := by
  refine Ev.run 1 fd_e30 (i' := 9) (ls' := [fx_f 0, .inl (x1), .inl (x2), .inl (x3)]) (st' := [.inl (x3)]) (M1 := M) rfl ?_
  refine Ev.ifF fd_e30 rfl g (decide_eq_false (Int.not_lt.mpr h)) ?_
  exact k
theorem r30_10T {X : fx_Sc} {M M' : fx_M} {r : Option fx_V} {x1 x2 x3 : Int} (g : (-2147483648 ≤ x3 ∧ x3 < 2147483648)) (h : x3 ≤ 2) (k : Ev X 30 15 [fx_f 0, .inl (x1), .inl (x2), .inl (x3)] [] M r M') : Ev X 30 10 [fx_f 0, .inl (x1), .inl (x2), .inl (x3)] [] M r M' := by
  refine Ev.run 2 fd_e30 (i' := 12) (ls' := [fx_f 0, .inl (x1), .inl (x2), .inl (x3)]) (st' := [.inl (2), .inl (x3)]) (M1 := M) rfl ?_
  refine Ev.icT fd_e30 rfl g (by decide) (decide_eq_true h) ?_
  exact k
theorem r30_10F {X : fx_Sc} {M M' : fx_M} {r : Option fx_V} {x1 x2 x3 : Int} (g : (-2147483648 ≤ x3 ∧ x3 < 2147483648)) (h : 2 < x3) (k : Ev X 30 13 [fx_f 0, .inl (x1), .inl (x2), .inl (x3)] [] M r M') : Ev X 30 10 [fx_f 0, .inl (x1), .inl (x2), .inl (x3)] [] M r M' := by
  refine Ev.run 2 fd_e30 (i' := 12) (ls' := [fx_f 0, .inl (x1), .inl (x2), .inl (x3)]) (st' := [.inl (2), .inl (x3)]) (M1 := M) rfl ?_
  refine Ev.icF fd_e30 rfl g (by decide) (decide_eq_false (Int.not_le.mpr h)) ?_
  exact k
theorem r30_13 {X : fx_Sc} {M : fx_M} {x1 x2 x3 : Int} : Ev X 30 13 [fx_f 0, .inl (x1), .inl (x2), .inl (x3)] [] M (some (.inl ((-2)))) M := by
  refine Ev.run 1 fd_e30 (i' := 14) (ls' := [fx_f 0, .inl (x1), .inl (x2), .inl (x3)]) (st' := [.inl ((-2))]) (M1 := M) rfl ?_
  exact Ev.ret1 fd_e30 rfl rfl
theorem r30_15 {X : fx_Sc} {M M' : fx_M} {r : Option fx_V} {x1 x2 x3 : Int} {M1 : fx_M} (hc : Ev X 77 0 [fx_f 5, fx_f 1] [] M none M1) (k : Ev X 30 20 [fx_f 0, .inl (x1), .inl (x2), .inl (x3)] [] M1 r M') : Ev X 30 15 [fx_f 0, .inl (x1), .inl (x2), .inl (x3)] [] M r M' := by
  refine Ev.run 4 fd_e30 (i' := 19) (ls' := [fx_f 0, .inl (x1), .inl (x2), .inl (x3)]) (st' := [fx_f 1, fx_f 5]) (M1 := M) rfl ?_
  refine Ev.callV (vs := [fx_f 5, fx_f 1]) (rest := []) (r1 := none) fd_e30 rfl rfl rfl (Nat.le_of_ble_eq_true rfl) (Nat.le_of_ble_eq_true rfl) (fd_rcvS fd_is5) hc ?_
  exact k
theorem r30_20 {X : fx_Sc} {M M' : fx_M} {r : Option fx_V} {x1 x2 x3 : Int} {M1 : fx_M} (hc : Ev X 92 0 [fx_f 5, .inl (x1), .inl (x2), fx_u] [] M none M1) (k : Ev X 30 25 [fx_f 0, .inl (x1), .inl (x2), .inl (x3)] [] M1 r M') : Ev X 30 20 [fx_f 0, .inl (x1), .inl (x2), .inl (x3)] [] M r M' := by
  refine Ev.run 4 fd_e30 (i' := 24) (ls' := [fx_f 0, .inl (x1), .inl (x2), .inl (x3)]) (st' := [.inl (x2), .inl (x1), fx_f 5]) (M1 := M) rfl ?_
  refine Ev.callV (vs := [fx_f 5, .inl (x1), .inl (x2)]) (rest := []) (r1 := none) fd_e30 rfl rfl rfl (Nat.le_of_ble_eq_true rfl) (Nat.le_of_ble_eq_true rfl) (fd_rcvS fd_is5) hc ?_
  exact k
theorem r30_25T {X : fx_Sc} {M M' : fx_M} {r : Option fx_V} {x1 x2 x3 : Int} (g : (-2147483648 ≤ x3 ∧ x3 < 2147483648)) (h : x3 ≠ 0) (k : Ev X 30 31 [fx_f 0, .inl (x1), .inl (x2), .inl (x3)] [] M r M') : Ev X 30 25 [fx_f 0, .inl (x1), .inl (x2), .inl (x3)] [] M r M' := by
  refine Ev.run 1 fd_e30 (i' := 26) (ls' := [fx_f 0, .inl (x1), .inl (x2), .inl (x3)]) (st' := [.inl (x3)]) (M1 := M) rfl ?_
  refine Ev.ifT fd_e30 rfl g (decide_eq_true h) ?_
  exact k
theorem r30_25F {X : fx_Sc} {M M' : fx_M} {r : Option fx_V} {x1 x2 x3 : Int} (g : (-2147483648 ≤ x3 ∧ x3 < 2147483648)) (h : x3 = 0) (k : Ev X 30 27 [fx_f 0, .inl (x1), .inl (x2), .inl (x3)] [] M r M') : Ev X 30 25 [fx_f 0, .inl (x1), .inl (x2), .inl (x3)] [] M r M' := by
  refine Ev.run 1 fd_e30 (i' := 26) (ls' := [fx_f 0, .inl (x1), .inl (x2), .inl (x3)]) (st' := [.inl (x3)]) (M1 := M) rfl ?_
  refine Ev.ifF fd_e30 rfl g (decide_eq_false (not_not_intro h)) ?_
  exact k
theorem r30_27 {X : fx_Sc} {M M' : fx_M} {r : Option fx_V} {x1 x2 x3 z : Int} {M1 : fx_M} (hc : Ev X 89 0 [fx_f 5, fx_u, fx_u] [] M (some (.inl z)) M1) (k : Ev X 30 30 [fx_f 0, .inl (x1), .inl (x2), .inl (x3)] [.inl (z)] M1 r M') : Ev X 30 27 [fx_f 0, .inl (x1), .inl (x2), .inl (x3)] [] M r M' := by
  refine Ev.run 2 fd_e30 (i' := 29) (ls' := [fx_f 0, .inl (x1), .inl (x2), .inl (x3)]) (st' := [fx_f 5]) (M1 := M) rfl ?_
  refine Ev.callV (vs := [fx_f 5]) (rest := []) (r1 := (some (.inl z))) fd_e30 rfl rfl rfl (Nat.le_of_ble_eq_true rfl) (Nat.le_of_ble_eq_true rfl) (fd_rcvS fd_is5) hc ?_
  exact k
theorem r30_30 {X : fx_Sc} {M : fx_M} {x1 x2 x3 s0 : Int} : Ev X 30 30 [fx_f 0, .inl (x1), .inl (x2), .inl (x3)] [.inl (s0)] M (some (.inl (s0))) M := by
  exact Ev.ret1 fd_e30 rfl rfl
theorem r30_31 {X : fx_Sc} {M M' : fx_M} {r : Option fx_V} {x1 x2 x3 : Int} {M1 : fx_M} (hc : Ev X 41 0 [fx_f 9, fx_f 5, fx_u] [] M none M1) (k : Ev X 30 36 [fx_f 0, .inl (x1), .inl (x2), .inl (x3)] [] M1 r M') : Ev X 30 31 [fx_f 0, .inl (x1), .inl (x2), .inl (x3)] [] M r M' := by
  refine Ev.run 4 fd_e30 (i' := 35) (ls' := [fx_f 0, .inl (x1), .inl (x2), .inl (x3)]) (st' := [fx_f 5, fx_f 9]) (M1 := M) rfl ?_
  refine Ev.callV (vs := [fx_f 9, fx_f 5]) (rest := []) (r1 := none) fd_e30 rfl rfl rfl (Nat.le_of_ble_eq_true rfl) (Nat.le_of_ble_eq_true rfl) rfl hc ?_
  exact k
theorem r30_36T {X : fx_Sc} {M M' : fx_M} {r : Option fx_V} {x1 x2 x3 : Int} (g : (-2147483648 ≤ x3 ∧ x3 < 2147483648)) (h : x3 ≠ 1) (k : Ev X 30 43 [fx_f 0, .inl (x1), .inl (x2), .inl (x3)] [] M r M') : Ev X 30 36 [fx_f 0, .inl (x1), .inl (x2), .inl (x3)] [] M r M' := by
  refine Ev.run 2 fd_e30 (i' := 38) (ls' := [fx_f 0, .inl (x1), .inl (x2), .inl (x3)]) (st' := [.inl (1), .inl (x3)]) (M1 := M) rfl ?_
  refine Ev.icT fd_e30 rfl g (by decide) (decide_eq_true h) ?_
  exact k
theorem r30_36F {X : fx_Sc} {M M' : fx_M} {r : Option fx_V} {x1 x2 x3 : Int} (g : (-2147483648 ≤ x3 ∧ x3 < 2147483648)) (h : x3 = 1) (k : Ev X 30 39 [fx_f 0, .inl (x1), .inl (x2), .inl (x3)] [] M r M') : Ev X 30 36 [fx_f 0, .inl (x1), .inl (x2), .inl (x3)] [] M r M' := by
  refine Ev.run 2 fd_e30 (i' := 38) (ls' := [fx_f 0, .inl (x1), .inl (x2), .inl (x3)]) (st' := [.inl (1), .inl (x3)]) (M1 := M) rfl ?_
  refine Ev.icF fd_e30 rfl g (by decide) (decide_eq_false (not_not_intro h)) ?_
  exact k
theorem r30_39 {X : fx_Sc} {M M' : fx_M} {r : Option fx_V} {x1 x2 x3 z : Int} {M1 : fx_M} (hc : Ev X 49 0 [fx_f 9] [] M (some (.inl z)) M1) (k : Ev X 30 42 [fx_f 0, .inl (x1), .inl (x2), .inl (x3)] [.inl (z)] M1 r M') : Ev X 30 39 [fx_f 0, .inl (x1), .inl (x2), .inl (x3)] [] M r M' := by
  refine Ev.run 2 fd_e30 (i' := 41) (ls' := [fx_f 0, .inl (x1), .inl (x2), .inl (x3)]) (st' := [fx_f 9]) (M1 := M) rfl ?_
  refine Ev.callV (vs := [fx_f 9]) (rest := []) (r1 := (some (.inl z))) fd_e30 rfl rfl rfl (Nat.le_of_ble_eq_true rfl) (Nat.le_of_ble_eq_true rfl) rfl hc ?_
  exact k
theorem r30_42 {X : fx_Sc} {M : fx_M} {x1 x2 x3 s0 : Int} : Ev X 30 42 [fx_f 0, .inl (x1), .inl (x2), .inl (x3)] [.inl (s0)] M (some (.inl (s0))) M := by
  refine Ev.run 1 fd_e30 (i' := 46) (ls' := [fx_f 0, .inl (x1), .inl (x2), .inl (x3)]) (st' := [.inl (s0)]) (M1 := M) rfl ?_
  exact Ev.ret1 fd_e30 rfl rfl
theorem r30_43 {X : fx_Sc} {M M' : fx_M} {r : Option fx_V} {x1 x2 x3 z : Int} {M1 : fx_M} (hc : Ev X 55 0 [fx_f 9, fx_u, fx_u] [] M (some (.inl z)) M1) (k : Ev X 30 46 [fx_f 0, .inl (x1), .inl (x2), .inl (x3)] [.inl (z)] M1 r M') : Ev X 30 43 [fx_f 0, .inl (x1), .inl (x2), .inl (x3)] [] M r M' := by
  refine Ev.run 2 fd_e30 (i' := 45) (ls' := [fx_f 0, .inl (x1), .inl (x2), .inl (x3)]) (st' := [fx_f 9]) (M1 := M) rfl ?_
  refine Ev.callV (vs := [fx_f 9]) (rest := []) (r1 := (some (.inl z))) fd_e30 rfl rfl rfl (Nat.le_of_ble_eq_true rfl) (Nat.le_of_ble_eq_true rfl) rfl hc ?_
  exact k
theorem r30_46 {X : fx_Sc} {M : fx_M} {x1 x2 x3 s0 : Int} : Ev X 30 46 [fx_f 0, .inl (x1), .inl (x2), .inl (x3)] [.inl (s0)] M (some (.inl (s0))) M := by
  exact Ev.ret1 fd_e30 rfl rfl
-- 34: FoldedStrips.undo()I
theorem fd_e34 : fd_C 34 = fd_c34 := rfl
theorem r34_0 {X : fx_Sc} {M M' : fx_M} {r : Option fx_V} {z : Int} {M1 : fx_M} (hc : Ev X 39 0 [fx_f 19] [] M (some (.inl z)) M1) (k : Ev X 34 3 [fx_f 0] [.inl (z)] M1 r M') : Ev X 34 0 [fx_f 0] [] M r M' := by
  refine Ev.run 2 fd_e34 (i' := 2) (ls' := [fx_f 0]) (st' := [fx_f 19]) (M1 := M) rfl ?_
  refine Ev.callV (vs := [fx_f 19]) (rest := []) (r1 := (some (.inl z))) fd_e34 rfl rfl rfl (Nat.le_of_ble_eq_true rfl) (Nat.le_of_ble_eq_true rfl) rfl hc ?_
  exact k
theorem r34_3T {X : fx_Sc} {M M' : fx_M} {r : Option fx_V} {s0 : Int} (g : (-2147483648 ≤ s0 ∧ s0 < 2147483648)) (h : s0 ≠ 0) (k : Ev X 34 6 [fx_f 0] [] M r M') : Ev X 34 3 [fx_f 0] [.inl (s0)] M r M' := by
  refine Ev.ifT fd_e34 rfl g (decide_eq_true h) ?_
  exact k
theorem r34_3F {X : fx_Sc} {M M' : fx_M} {r : Option fx_V} {s0 : Int} (g : (-2147483648 ≤ s0 ∧ s0 < 2147483648)) (h : s0 = 0) (k : Ev X 34 4 [fx_f 0] [] M r M') : Ev X 34 3 [fx_f 0] [.inl (s0)] M r M' := by
  refine Ev.ifF fd_e34 rfl g (decide_eq_false (not_not_intro h)) ?_
  exact k
theorem r34_4 {X : fx_Sc} {M : fx_M} : Ev X 34 4 [fx_f 0] [] M (some (.inl ((-5)))) M := by
  refine Ev.run 1 fd_e34 (i' := 5) (ls' := [fx_f 0]) (st' := [.inl ((-5))]) (M1 := M) rfl ?_
  exact Ev.ret1 fd_e34 rfl rfl
theorem r34_6 {X : fx_Sc} {M M' : fx_M} {r : Option fx_V} {M1 : fx_M} (hc : Ev X 40 0 [fx_f 19, fx_f 1, fx_u, fx_u] [] M none M1) (k : Ev X 34 11 [fx_f 0] [] M1 r M') : Ev X 34 6 [fx_f 0] [] M r M' := by
  refine Ev.run 4 fd_e34 (i' := 10) (ls' := [fx_f 0]) (st' := [fx_f 1, fx_f 19]) (M1 := M) rfl ?_
  refine Ev.callV (vs := [fx_f 19, fx_f 1]) (rest := []) (r1 := none) fd_e34 rfl rfl rfl (Nat.le_of_ble_eq_true rfl) (Nat.le_of_ble_eq_true rfl) rfl hc ?_
  exact k
theorem r34_11 {X : fx_Sc} {M M' : fx_M} {r : Option fx_V} {z : Int} {M1 : fx_M} (hc : Ev X 39 0 [fx_f 19] [] M (some (.inl z)) M1) (k : Ev X 34 14 [fx_f 0] [.inl (z)] M1 r M') : Ev X 34 11 [fx_f 0] [] M r M' := by
  refine Ev.run 2 fd_e34 (i' := 13) (ls' := [fx_f 0]) (st' := [fx_f 19]) (M1 := M) rfl ?_
  refine Ev.callV (vs := [fx_f 19]) (rest := []) (r1 := (some (.inl z))) fd_e34 rfl rfl rfl (Nat.le_of_ble_eq_true rfl) (Nat.le_of_ble_eq_true rfl) rfl hc ?_
  exact k
theorem r34_14 {X : fx_Sc} {M : fx_M} {s0 : Int} : Ev X 34 14 [fx_f 0] [.inl (s0)] M (some (.inl (s0))) M := by
  exact Ev.ret1 fd_e34 rfl rfl
-- 35: FoldedStrips.save(I)I
theorem fd_e35 : fd_C 35 = fd_c35 := rfl
theorem r35_0 {X : fx_Sc} {M M' : fx_M} {r : Option fx_V} {x1 z : Int} {M1 : fx_M} (hc : Ev X 36 0 [.inl (x1)] [] M (some (.inl z)) M1) (k : Ev X 35 2 [fx_f 0, .inl (x1)] [.inl (z)] M1 r M') : Ev X 35 0 [fx_f 0, .inl (x1)] [] M r M' := by
  refine Ev.run 1 fd_e35 (i' := 1) (ls' := [fx_f 0, .inl (x1)]) (st' := [.inl (x1)]) (M1 := M) rfl ?_
  refine Ev.callS (vs := [.inl (x1)]) (rest := []) (r1 := (some (.inl z))) fd_e35 rfl rfl rfl (Nat.le_of_ble_eq_true rfl) (Nat.le_of_ble_eq_true rfl) hc ?_
  exact k
theorem r35_2T {X : fx_Sc} {M M' : fx_M} {r : Option fx_V} {x1 s0 : Int} (g : (-2147483648 ≤ s0 ∧ s0 < 2147483648)) (h : s0 ≠ 0) (k : Ev X 35 5 [fx_f 0, .inl (x1)] [] M r M') : Ev X 35 2 [fx_f 0, .inl (x1)] [.inl (s0)] M r M' := by
  refine Ev.ifT fd_e35 rfl g (decide_eq_true h) ?_
  exact k
theorem r35_2F {X : fx_Sc} {M M' : fx_M} {r : Option fx_V} {x1 s0 : Int} (g : (-2147483648 ≤ s0 ∧ s0 < 2147483648)) (h : s0 = 0) (k : Ev X 35 3 [fx_f 0, .inl (x1)] [] M r M') : Ev X 35 2 [fx_f 0, .inl (x1)] [.inl (s0)] M r M' := by
  refine Ev.ifF fd_e35 rfl g (decide_eq_false (not_not_intro h)) ?_
  exact k
theorem r35_3 {X : fx_Sc} {M : fx_M} {x1 : Int} : Ev X 35 3 [fx_f 0, .inl (x1)] [] M (some (.inl ((-2)))) M := by
  refine Ev.run 1 fd_e35 (i' := 4) (ls' := [fx_f 0, .inl (x1)]) (st' := [.inl ((-2))]) (M1 := M) rfl ?_
  exact Ev.ret1 fd_e35 rfl rfl
theorem r35_5 {X : fx_Sc} {M M' : fx_M} {r : Option fx_V} {x1 : Int} {M1 : fx_M} (hc : Ev X 74 0 [fx_f 45, .inl (x1), fx_f 1] [] M none M1) (k : Ev X 35 11 [fx_f 0, .inl (x1)] [] M1 r M') : Ev X 35 5 [fx_f 0, .inl (x1)] [] M r M' := by
  refine Ev.run 5 fd_e35 (i' := 10) (ls' := [fx_f 0, .inl (x1)]) (st' := [fx_f 1, .inl (x1), fx_f 45]) (M1 := M) rfl ?_
  refine Ev.callV (vs := [fx_f 45, .inl (x1), fx_f 1]) (rest := []) (r1 := none) fd_e35 rfl rfl rfl (Nat.le_of_ble_eq_true rfl) (Nat.le_of_ble_eq_true rfl) rfl hc ?_
  exact k
theorem r35_11 {X : fx_Sc} {M M' : fx_M} {r : Option fx_V} {x1 z : Int} {M1 : fx_M} (hc : Ev X 111 0 [fx_f 1, fx_u, fx_u] [] M (some (.inl z)) M1) (k : Ev X 35 14 [fx_f 0, .inl (x1)] [.inl (z)] M1 r M') : Ev X 35 11 [fx_f 0, .inl (x1)] [] M r M' := by
  refine Ev.run 2 fd_e35 (i' := 13) (ls' := [fx_f 0, .inl (x1)]) (st' := [fx_f 1]) (M1 := M) rfl ?_
  refine Ev.callV (vs := [fx_f 1]) (rest := []) (r1 := (some (.inl z))) fd_e35 rfl rfl rfl (Nat.le_of_ble_eq_true rfl) (Nat.le_of_ble_eq_true rfl) (fd_rcvS fd_is1) hc ?_
  exact k
theorem r35_14 {X : fx_Sc} {M : fx_M} {x1 s0 : Int} : Ev X 35 14 [fx_f 0, .inl (x1)] [.inl (s0)] M (some (.inl (s0))) M := by
  exact Ev.ret1 fd_e35 rfl rfl
-- 36: FoldedStrips.isSlot(I)Z
theorem fd_e36 : fd_C 36 = fd_c36 := rfl
theorem r36_0T {X : fx_Sc} {M M' : fx_M} {r : Option fx_V} {x0 : Int} (g : (-2147483648 ≤ x0 ∧ x0 < 2147483648)) (h : x0 < 0) (k : Ev X 36 7 [.inl (x0)] [] M r M') : Ev X 36 0 [.inl (x0)] [] M r M' := by
  refine Ev.run 1 fd_e36 (i' := 1) (ls' := [.inl (x0)]) (st' := [.inl (x0)]) (M1 := M) rfl ?_
  refine Ev.ifT fd_e36 rfl g (decide_eq_true h) ?_
  exact k
theorem r36_0F {X : fx_Sc} {M M' : fx_M} {r : Option fx_V} {x0 : Int} (g : (-2147483648 ≤ x0 ∧ x0 < 2147483648)) (h : 0 ≤ x0) (k : Ev X 36 2 [.inl (x0)] [] M r M') : Ev X 36 0 [.inl (x0)] [] M r M' := by
  refine Ev.run 1 fd_e36 (i' := 1) (ls' := [.inl (x0)]) (st' := [.inl (x0)]) (M1 := M) rfl ?_
  refine Ev.ifF fd_e36 rfl g (decide_eq_false (Int.not_lt.mpr h)) ?_
  exact k
theorem r36_2T {X : fx_Sc} {M M' : fx_M} {r : Option fx_V} {x0 : Int} (g : (-2147483648 ≤ x0 ∧ x0 < 2147483648)) (h : 2 ≤ x0) (k : Ev X 36 7 [.inl (x0)] [] M r M') : Ev X 36 2 [.inl (x0)] [] M r M' := by
  refine Ev.run 2 fd_e36 (i' := 4) (ls' := [.inl (x0)]) (st' := [.inl (2), .inl (x0)]) (M1 := M) rfl ?_
  refine Ev.icT fd_e36 rfl g (by decide) (decide_eq_true h) ?_
  exact k
theorem r36_2F {X : fx_Sc} {M M' : fx_M} {r : Option fx_V} {x0 : Int} (g : (-2147483648 ≤ x0 ∧ x0 < 2147483648)) (h : x0 < 2) (k : Ev X 36 5 [.inl (x0)] [] M r M') : Ev X 36 2 [.inl (x0)] [] M r M' := by
  refine Ev.run 2 fd_e36 (i' := 4) (ls' := [.inl (x0)]) (st' := [.inl (2), .inl (x0)]) (M1 := M) rfl ?_
  refine Ev.icF fd_e36 rfl g (by decide) (decide_eq_false (Int.not_le.mpr h)) ?_
  exact k
theorem r36_5 {X : fx_Sc} {M : fx_M} {x0 : Int} : Ev X 36 5 [.inl (x0)] [] M (some (.inl (1))) M := by
  refine Ev.run 2 fd_e36 (i' := 8) (ls' := [.inl (x0)]) (st' := [.inl (1)]) (M1 := M) rfl ?_
  exact Ev.ret2 fd_e36 rfl rfl (by decide)
theorem r36_7 {X : fx_Sc} {M : fx_M} {x0 : Int} : Ev X 36 7 [.inl (x0)] [] M (some (.inl (0))) M := by
  refine Ev.run 1 fd_e36 (i' := 8) (ls' := [.inl (x0)]) (st' := [.inl (0)]) (M1 := M) rfl ?_
  exact Ev.ret2 fd_e36 rfl rfl (by decide)
-- 37: FoldedStrips.restore(I)I
theorem fd_e37 : fd_C 37 = fd_c37 := rfl
theorem r37_0 {X : fx_Sc} {M M' : fx_M} {r : Option fx_V} {x1 z : Int} {M1 : fx_M} (hc : Ev X 36 0 [.inl (x1)] [] M (some (.inl z)) M1) (k : Ev X 37 2 [fx_f 0, .inl (x1)] [.inl (z)] M1 r M') : Ev X 37 0 [fx_f 0, .inl (x1)] [] M r M' := by
  refine Ev.run 1 fd_e37 (i' := 1) (ls' := [fx_f 0, .inl (x1)]) (st' := [.inl (x1)]) (M1 := M) rfl ?_
  refine Ev.callS (vs := [.inl (x1)]) (rest := []) (r1 := (some (.inl z))) fd_e37 rfl rfl rfl (Nat.le_of_ble_eq_true rfl) (Nat.le_of_ble_eq_true rfl) hc ?_
  exact k
theorem r37_2T {X : fx_Sc} {M M' : fx_M} {r : Option fx_V} {x1 s0 : Int} (g : (-2147483648 ≤ s0 ∧ s0 < 2147483648)) (h : s0 ≠ 0) (k : Ev X 37 5 [fx_f 0, .inl (x1)] [] M r M') : Ev X 37 2 [fx_f 0, .inl (x1)] [.inl (s0)] M r M' := by
  refine Ev.ifT fd_e37 rfl g (decide_eq_true h) ?_
  exact k
theorem r37_2F {X : fx_Sc} {M M' : fx_M} {r : Option fx_V} {x1 s0 : Int} (g : (-2147483648 ≤ s0 ∧ s0 < 2147483648)) (h : s0 = 0) (k : Ev X 37 3 [fx_f 0, .inl (x1)] [] M r M') : Ev X 37 2 [fx_f 0, .inl (x1)] [.inl (s0)] M r M' := by
  refine Ev.ifF fd_e37 rfl g (decide_eq_false (not_not_intro h)) ?_
  exact k
theorem r37_3 {X : fx_Sc} {M : fx_M} {x1 : Int} : Ev X 37 3 [fx_f 0, .inl (x1)] [] M (some (.inl ((-2)))) M := by
  refine Ev.run 1 fd_e37 (i' := 4) (ls' := [fx_f 0, .inl (x1)]) (st' := [.inl ((-2))]) (M1 := M) rfl ?_
  exact Ev.ret1 fd_e37 rfl rfl
theorem r37_5 {X : fx_Sc} {M M' : fx_M} {r : Option fx_V} {x1 z : Int} {M1 : fx_M} (hc : Ev X 75 0 [fx_f 45, .inl (x1)] [] M (some (.inl z)) M1) (k : Ev X 37 9 [fx_f 0, .inl (x1)] [.inl (z)] M1 r M') : Ev X 37 5 [fx_f 0, .inl (x1)] [] M r M' := by
  refine Ev.run 3 fd_e37 (i' := 8) (ls' := [fx_f 0, .inl (x1)]) (st' := [.inl (x1), fx_f 45]) (M1 := M) rfl ?_
  refine Ev.callV (vs := [fx_f 45, .inl (x1)]) (rest := []) (r1 := (some (.inl z))) fd_e37 rfl rfl rfl (Nat.le_of_ble_eq_true rfl) (Nat.le_of_ble_eq_true rfl) rfl hc ?_
  exact k
theorem r37_9T {X : fx_Sc} {M M' : fx_M} {r : Option fx_V} {x1 s0 : Int} (g : (-2147483648 ≤ s0 ∧ s0 < 2147483648)) (h : s0 ≠ 0) (k : Ev X 37 12 [fx_f 0, .inl (x1)] [] M r M') : Ev X 37 9 [fx_f 0, .inl (x1)] [.inl (s0)] M r M' := by
  refine Ev.ifT fd_e37 rfl g (decide_eq_true h) ?_
  exact k
theorem r37_9F {X : fx_Sc} {M M' : fx_M} {r : Option fx_V} {x1 s0 : Int} (g : (-2147483648 ≤ s0 ∧ s0 < 2147483648)) (h : s0 = 0) (k : Ev X 37 10 [fx_f 0, .inl (x1)] [] M r M') : Ev X 37 9 [fx_f 0, .inl (x1)] [.inl (s0)] M r M' := by
  refine Ev.ifF fd_e37 rfl g (decide_eq_false (not_not_intro h)) ?_
  exact k
theorem r37_10 {X : fx_Sc} {M : fx_M} {x1 : Int} : Ev X 37 10 [fx_f 0, .inl (x1)] [] M (some (.inl ((-5)))) M := by
  refine Ev.run 1 fd_e37 (i' := 11) (ls' := [fx_f 0, .inl (x1)]) (st' := [.inl ((-5))]) (M1 := M) rfl ?_
  exact Ev.ret1 fd_e37 rfl rfl
theorem r37_12 {X : fx_Sc} {M M' : fx_M} {r : Option fx_V} {x1 : Int} {M1 : fx_M} (hc : Ev X 38 0 [fx_f 19, fx_f 1, fx_u] [] M none M1) (k : Ev X 37 17 [fx_f 0, .inl (x1)] [] M1 r M') : Ev X 37 12 [fx_f 0, .inl (x1)] [] M r M' := by
  refine Ev.run 4 fd_e37 (i' := 16) (ls' := [fx_f 0, .inl (x1)]) (st' := [fx_f 1, fx_f 19]) (M1 := M) rfl ?_
  refine Ev.callV (vs := [fx_f 19, fx_f 1]) (rest := []) (r1 := none) fd_e37 rfl rfl rfl (Nat.le_of_ble_eq_true rfl) (Nat.le_of_ble_eq_true rfl) rfl hc ?_
  exact k
theorem r37_17 {X : fx_Sc} {M M' : fx_M} {r : Option fx_V} {x1 : Int} {M1 : fx_M} (hc : Ev X 76 0 [fx_f 45, .inl (x1), fx_f 1] [] M none M1) (k : Ev X 37 23 [fx_f 0, .inl (x1)] [] M1 r M') : Ev X 37 17 [fx_f 0, .inl (x1)] [] M r M' := by
  refine Ev.run 5 fd_e37 (i' := 22) (ls' := [fx_f 0, .inl (x1)]) (st' := [fx_f 1, .inl (x1), fx_f 45]) (M1 := M) rfl ?_
  refine Ev.callV (vs := [fx_f 45, .inl (x1), fx_f 1]) (rest := []) (r1 := none) fd_e37 rfl rfl rfl (Nat.le_of_ble_eq_true rfl) (Nat.le_of_ble_eq_true rfl) rfl hc ?_
  exact k
theorem r37_23 {X : fx_Sc} {M M' : fx_M} {r : Option fx_V} {x1 z : Int} {M1 : fx_M} (hc : Ev X 111 0 [fx_f 1, fx_u, fx_u] [] M (some (.inl z)) M1) (k : Ev X 37 26 [fx_f 0, .inl (x1)] [.inl (z)] M1 r M') : Ev X 37 23 [fx_f 0, .inl (x1)] [] M r M' := by
  refine Ev.run 2 fd_e37 (i' := 25) (ls' := [fx_f 0, .inl (x1)]) (st' := [fx_f 1]) (M1 := M) rfl ?_
  refine Ev.callV (vs := [fx_f 1]) (rest := []) (r1 := (some (.inl z))) fd_e37 rfl rfl rfl (Nat.le_of_ble_eq_true rfl) (Nat.le_of_ble_eq_true rfl) (fd_rcvS fd_is1) hc ?_
  exact k
theorem r37_26 {X : fx_Sc} {M : fx_M} {x1 s0 : Int} : Ev X 37 26 [fx_f 0, .inl (x1)] [.inl (s0)] M (some (.inl (s0))) M := by
  exact Ev.ret1 fd_e37 rfl rfl

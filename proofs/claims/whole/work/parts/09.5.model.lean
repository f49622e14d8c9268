-- 114: FoldedStripsModel.join(III)I
theorem fd_e114 : fd_C 114 = fd_c114 := rfl
theorem r114_0 {X : fx_Sc} {M M' : fx_M} {r : Option fx_V} {x1 x2 x3 z : Int} {M1 : fx_M} (hc : Ev X 115 0 [.inl (x1), .inl (x2)] [] M (some (.inl z)) M1) (k : Ev X 114 3 [fx_f 56, .inl (x1), .inl (x2), .inl (x3)] [.inl (z)] M1 r M') : Ev X 114 0 [fx_f 56, .inl (x1), .inl (x2), .inl (x3)] [] M r M' := by
  refine Ev.run 2 fd_e114 (i' := 2) (ls' := [fx_f 56, .inl (x1), .inl (x2), .inl (x3)]) (st' := [.inl (x2), .inl (x1)]) (M1 := M) rfl ?_
  refine Ev.callS (vs := [.inl (x1), .inl (x2)]) (rest := []) (r1 := (some (.inl z))) fd_e114 rfl rfl rfl (Nat.le_of_ble_eq_true rfl) (Nat.le_of_ble_eq_true rfl) hc ?_
  exact k
theorem r114_3T {X : fx_Sc} {M M' : fx_M} {r : Option fx_V} {x1 x2 x3 s0 : Int} (g : (-2147483648 ≤ s0 ∧ s0 < 2147483648)) (h : s0 = 0) (k : Ev X 114 8 [fx_f 56, .inl (x1), .inl (x2), .inl (x3)] [] M r M') : Ev X 114 3 [fx_f 56, .inl (x1), .inl (x2), .inl (x3)] [.inl (s0)] M r M' := by
  refine Ev.ifT fd_e114 rfl g (decide_eq_true h) ?_
  exact k
theorem r114_3F {X : fx_Sc} {M M' : fx_M} {r : Option fx_V} {x1 x2 x3 s0 : Int} (g : (-2147483648 ≤ s0 ∧ s0 < 2147483648)) (h : s0 ≠ 0) (k : Ev X 114 4 [fx_f 56, .inl (x1), .inl (x2), .inl (x3)] [] M r M') : Ev X 114 3 [fx_f 56, .inl (x1), .inl (x2), .inl (x3)] [.inl (s0)] M r M' := by
  refine Ev.ifF fd_e114 rfl g (decide_eq_false h) ?_
  exact k
theorem r114_4 {X : fx_Sc} {M M' : fx_M} {r : Option fx_V} {x1 x2 x3 z : Int} {M1 : fx_M} (hc : Ev X 115 0 [.inl (x1), .inl (x3)] [] M (some (.inl z)) M1) (k : Ev X 114 7 [fx_f 56, .inl (x1), .inl (x2), .inl (x3)] [.inl (z)] M1 r M') : Ev X 114 4 [fx_f 56, .inl (x1), .inl (x2), .inl (x3)] [] M r M' := by
  refine Ev.run 2 fd_e114 (i' := 6) (ls' := [fx_f 56, .inl (x1), .inl (x2), .inl (x3)]) (st' := [.inl (x3), .inl (x1)]) (M1 := M) rfl ?_
  refine Ev.callS (vs := [.inl (x1), .inl (x3)]) (rest := []) (r1 := (some (.inl z))) fd_e114 rfl rfl rfl (Nat.le_of_ble_eq_true rfl) (Nat.le_of_ble_eq_true rfl) hc ?_
  exact k
theorem r114_7T {X : fx_Sc} {M M' : fx_M} {r : Option fx_V} {x1 x2 x3 s0 : Int} (g : (-2147483648 ≤ s0 ∧ s0 < 2147483648)) (h : s0 ≠ 0) (k : Ev X 114 10 [fx_f 56, .inl (x1), .inl (x2), .inl (x3)] [] M r M') : Ev X 114 7 [fx_f 56, .inl (x1), .inl (x2), .inl (x3)] [.inl (s0)] M r M' := by
  refine Ev.ifT fd_e114 rfl g (decide_eq_true h) ?_
  exact k
theorem r114_7F {X : fx_Sc} {M M' : fx_M} {r : Option fx_V} {x1 x2 x3 s0 : Int} (g : (-2147483648 ≤ s0 ∧ s0 < 2147483648)) (h : s0 = 0) (k : Ev X 114 8 [fx_f 56, .inl (x1), .inl (x2), .inl (x3)] [] M r M') : Ev X 114 7 [fx_f 56, .inl (x1), .inl (x2), .inl (x3)] [.inl (s0)] M r M' := by
  refine Ev.ifF fd_e114 rfl g (decide_eq_false (not_not_intro h)) ?_
  exact k
theorem r114_8 {X : fx_Sc} {M : fx_M} {x1 x2 x3 : Int} : Ev X 114 8 [fx_f 56, .inl (x1), .inl (x2), .inl (x3)] [] M (some (.inl ((-1)))) M := by
  refine Ev.run 1 fd_e114 (i' := 9) (ls' := [fx_f 56, .inl (x1), .inl (x2), .inl (x3)]) (st' := [.inl ((-1))]) (M1 := M) rfl ?_
  exact Ev.ret1 fd_e114 rfl rfl
theorem r114_10T {X : fx_Sc} {M M' : fx_M} {r : Option fx_V} {x1 x2 x3 : Int} (g : (-2147483648 ≤ x2 ∧ x2 < 2147483648) ∧ (-2147483648 ≤ x3 ∧ x3 < 2147483648)) (h : x2 ≠ x3) (k : Ev X 114 15 [fx_f 56, .inl (x1), .inl (x2), .inl (x3)] [] M r M') : Ev X 114 10 [fx_f 56, .inl (x1), .inl (x2), .inl (x3)] [] M r M' := by
  refine Ev.run 2 fd_e114 (i' := 12) (ls' := [fx_f 56, .inl (x1), .inl (x2), .inl (x3)]) (st' := [.inl (x3), .inl (x2)]) (M1 := M) rfl ?_
  refine Ev.icT fd_e114 rfl g.1 g.2 (decide_eq_true h) ?_
  exact k
theorem r114_10F {X : fx_Sc} {M M' : fx_M} {r : Option fx_V} {x1 x2 x3 : Int} (g : (-2147483648 ≤ x2 ∧ x2 < 2147483648) ∧ (-2147483648 ≤ x3 ∧ x3 < 2147483648)) (h : x2 = x3) (k : Ev X 114 13 [fx_f 56, .inl (x1), .inl (x2), .inl (x3)] [] M r M') : Ev X 114 10 [fx_f 56, .inl (x1), .inl (x2), .inl (x3)] [] M r M' := by
  refine Ev.run 2 fd_e114 (i' := 12) (ls' := [fx_f 56, .inl (x1), .inl (x2), .inl (x3)]) (st' := [.inl (x3), .inl (x2)]) (M1 := M) rfl ?_
  refine Ev.icF fd_e114 rfl g.1 g.2 (decide_eq_false (not_not_intro h)) ?_
  exact k
theorem r114_13 {X : fx_Sc} {M : fx_M} {x1 x2 x3 : Int} : Ev X 114 13 [fx_f 56, .inl (x1), .inl (x2), .inl (x3)] [] M (some (.inl ((-2)))) M := by
  refine Ev.run 1 fd_e114 (i' := 14) (ls' := [fx_f 56, .inl (x1), .inl (x2), .inl (x3)]) (st' := [.inl ((-2))]) (M1 := M) rfl ?_
  exact Ev.ret1 fd_e114 rfl rfl
theorem r114_15 {X : fx_Sc} {M M' : fx_M} {r : Option fx_V} {x1 x2 x3 z : Int} {M1 : fx_M} (hc : Ev X 118 0 [fx_f 56, .inl (((24 * x1) + x2))] [] M (some (.inl z)) M1) (k : Ev X 114 22 [fx_f 56, .inl (x1), .inl (x2), .inl (x3)] [.inl (z)] M1 r M') : Ev X 114 15 [fx_f 56, .inl (x1), .inl (x2), .inl (x3)] [] M r M' := by
  refine Ev.run 6 fd_e114 (i' := 21) (ls' := [fx_f 56, .inl (x1), .inl (x2), .inl (x3)]) (st' := [.inl (((24 * x1) + x2)), fx_f 56]) (M1 := M) rfl ?_
  refine Ev.callV (vs := [fx_f 56, .inl (((24 * x1) + x2))]) (rest := []) (r1 := (some (.inl z))) fd_e114 rfl rfl rfl (Nat.le_of_ble_eq_true rfl) (Nat.le_of_ble_eq_true rfl) rfl hc ?_
  exact k
theorem r114_22T {X : fx_Sc} {M M' : fx_M} {r : Option fx_V} {x1 x2 x3 s0 : Int} (g : (-2147483648 ≤ s0 ∧ s0 < 2147483648)) (h : s0 ≠ 0) (k : Ev X 114 31 [fx_f 56, .inl (x1), .inl (x2), .inl (x3)] [] M r M') : Ev X 114 22 [fx_f 56, .inl (x1), .inl (x2), .inl (x3)] [.inl (s0)] M r M' := by
  refine Ev.ifT fd_e114 rfl g (decide_eq_true h) ?_
  exact k
theorem r114_22F {X : fx_Sc} {M M' : fx_M} {r : Option fx_V} {x1 x2 x3 s0 : Int} (g : (-2147483648 ≤ s0 ∧ s0 < 2147483648)) (h : s0 = 0) (k : Ev X 114 23 [fx_f 56, .inl (x1), .inl (x2), .inl (x3)] [] M r M') : Ev X 114 22 [fx_f 56, .inl (x1), .inl (x2), .inl (x3)] [.inl (s0)] M r M' := by
  refine Ev.ifF fd_e114 rfl g (decide_eq_false (not_not_intro h)) ?_
  exact k
theorem r114_23 {X : fx_Sc} {M M' : fx_M} {r : Option fx_V} {x1 x2 x3 z : Int} {M1 : fx_M} (hc : Ev X 118 0 [fx_f 56, .inl (((24 * x1) + x3))] [] M (some (.inl z)) M1) (k : Ev X 114 30 [fx_f 56, .inl (x1), .inl (x2), .inl (x3)] [.inl (z)] M1 r M') : Ev X 114 23 [fx_f 56, .inl (x1), .inl (x2), .inl (x3)] [] M r M' := by
  refine Ev.run 6 fd_e114 (i' := 29) (ls' := [fx_f 56, .inl (x1), .inl (x2), .inl (x3)]) (st' := [.inl (((24 * x1) + x3)), fx_f 56]) (M1 := M) rfl ?_
  refine Ev.callV (vs := [fx_f 56, .inl (((24 * x1) + x3))]) (rest := []) (r1 := (some (.inl z))) fd_e114 rfl rfl rfl (Nat.le_of_ble_eq_true rfl) (Nat.le_of_ble_eq_true rfl) rfl hc ?_
  exact k
theorem r114_30T {X : fx_Sc} {M M' : fx_M} {r : Option fx_V} {x1 x2 x3 s0 : Int} (g : (-2147483648 ≤ s0 ∧ s0 < 2147483648)) (h : s0 = 0) (k : Ev X 114 33 [fx_f 56, .inl (x1), .inl (x2), .inl (x3)] [] M r M') : Ev X 114 30 [fx_f 56, .inl (x1), .inl (x2), .inl (x3)] [.inl (s0)] M r M' := by
  refine Ev.ifT fd_e114 rfl g (decide_eq_true h) ?_
  exact k
theorem r114_30F {X : fx_Sc} {M M' : fx_M} {r : Option fx_V} {x1 x2 x3 s0 : Int} (g : (-2147483648 ≤ s0 ∧ s0 < 2147483648)) (h : s0 ≠ 0) (k : Ev X 114 31 [fx_f 56, .inl (x1), .inl (x2), .inl (x3)] [] M r M') : Ev X 114 30 [fx_f 56, .inl (x1), .inl (x2), .inl (x3)] [.inl (s0)] M r M' := by
  refine Ev.ifF fd_e114 rfl g (decide_eq_false h) ?_
  exact k
theorem r114_31 {X : fx_Sc} {M : fx_M} {x1 x2 x3 : Int} : Ev X 114 31 [fx_f 56, .inl (x1), .inl (x2), .inl (x3)] [] M (some (.inl ((-5)))) M := by
  refine Ev.run 1 fd_e114 (i' := 32) (ls' := [fx_f 56, .inl (x1), .inl (x2), .inl (x3)]) (st' := [.inl ((-5))]) (M1 := M) rfl ?_
  exact Ev.ret1 fd_e114 rfl rfl
theorem r114_33 {X : fx_Sc} {M M' : fx_M} {r : Option fx_V} {x1 x2 x3 : Int} {M1 : fx_M} (hc : Ev X 119 0 [fx_f 56, fx_u] [] M none M1) (k : Ev X 114 35 [fx_f 56, .inl (x1), .inl (x2), .inl (x3)] [] M1 r M') : Ev X 114 33 [fx_f 56, .inl (x1), .inl (x2), .inl (x3)] [] M r M' := by
  refine Ev.run 1 fd_e114 (i' := 34) (ls' := [fx_f 56, .inl (x1), .inl (x2), .inl (x3)]) (st' := [fx_f 56]) (M1 := M) rfl ?_
  refine Ev.callV (vs := [fx_f 56]) (rest := []) (r1 := none) fd_e114 rfl rfl rfl (Nat.le_of_ble_eq_true rfl) (Nat.le_of_ble_eq_true rfl) rfl hc ?_
  exact k
theorem r114_35 {X : fx_Sc} {M M' : fx_M} {r : Option fx_V} {x1 x2 x3 : Int} {M1 : fx_M} (hc : Ev X 120 0 [fx_f 56, .inl (x1), .inl (x2), .inl (x3)] [] M none M1) (k : Ev X 114 40 [fx_f 56, .inl (x1), .inl (x2), .inl (x3)] [] M1 r M') : Ev X 114 35 [fx_f 56, .inl (x1), .inl (x2), .inl (x3)] [] M r M' := by
  refine Ev.run 4 fd_e114 (i' := 39) (ls' := [fx_f 56, .inl (x1), .inl (x2), .inl (x3)]) (st' := [.inl (x3), .inl (x2), .inl (x1), fx_f 56]) (M1 := M) rfl ?_
  refine Ev.callV (vs := [fx_f 56, .inl (x1), .inl (x2), .inl (x3)]) (rest := []) (r1 := none) fd_e114 rfl rfl rfl (Nat.le_of_ble_eq_true rfl) (Nat.le_of_ble_eq_true rfl) rfl hc ?_
  exact k
theorem r114_40 {X : fx_Sc} {M M' : fx_M} {r : Option fx_V} {x1 x2 x3 z : Int} {M1 : fx_M} (hc : Ev X 121 0 [fx_f 56, .inl (x1), fx_u, fx_u] [] M (some (.inl z)) M1) (k : Ev X 114 43 [fx_f 56, .inl (x1), .inl (x2), .inl (x3)] [.inl (z)] M1 r M') : Ev X 114 40 [fx_f 56, .inl (x1), .inl (x2), .inl (x3)] [] M r M' := by
  refine Ev.run 2 fd_e114 (i' := 42) (ls' := [fx_f 56, .inl (x1), .inl (x2), .inl (x3)]) (st' := [.inl (x1), fx_f 56]) (M1 := M) rfl ?_
  refine Ev.callV (vs := [fx_f 56, .inl (x1)]) (rest := []) (r1 := (some (.inl z))) fd_e114 rfl rfl rfl (Nat.le_of_ble_eq_true rfl) (Nat.le_of_ble_eq_true rfl) rfl hc ?_
  exact k
theorem r114_43 {X : fx_Sc} {M : fx_M} {x1 x2 x3 s0 : Int} : Ev X 114 43 [fx_f 56, .inl (x1), .inl (x2), .inl (x3)] [.inl (s0)] M (some (.inl (s0))) M := by
  exact Ev.ret1 fd_e114 rfl rfl
-- 115: FoldedStripsModel.isEnd(II)Z
theorem fd_e115 : fd_C 115 = fd_c115 := rfl
theorem r115_0 {X : fx_Sc} {M M' : fx_M} {r : Option fx_V} {x0 x1 z : Int} {M1 : fx_M} (hc : Ev X 116 0 [.inl (x0)] [] M (some (.inl z)) M1) (k : Ev X 115 2 [.inl (x0), .inl (x1)] [.inl (z)] M1 r M') : Ev X 115 0 [.inl (x0), .inl (x1)] [] M r M' := by
  refine Ev.run 1 fd_e115 (i' := 1) (ls' := [.inl (x0), .inl (x1)]) (st' := [.inl (x0)]) (M1 := M) rfl ?_
  refine Ev.callS (vs := [.inl (x0)]) (rest := []) (r1 := (some (.inl z))) fd_e115 rfl rfl rfl (Nat.le_of_ble_eq_true rfl) (Nat.le_of_ble_eq_true rfl) hc ?_
  exact k
theorem r115_2T {X : fx_Sc} {M M' : fx_M} {r : Option fx_V} {x0 x1 s0 : Int} (g : (-2147483648 ≤ s0 ∧ s0 < 2147483648)) (h : s0 = 0) (k : Ev X 115 10 [.inl (x0), .inl (x1)] [] M r M') : Ev X 115 2 [.inl (x0), .inl (x1)] [.inl (s0)] M r M' := by
  refine Ev.ifT fd_e115 rfl g (decide_eq_true h) ?_
  exact k
theorem r115_2F {X : fx_Sc} {M M' : fx_M} {r : Option fx_V} {x0 x1 s0 : Int} (g : (-2147483648 ≤ s0 ∧ s0 < 2147483648)) (h : s0 ≠ 0) (k : Ev X 115 3 [.inl (x0), .inl (x1)] [] M r M') : Ev X 115 2 [.inl (x0), .inl (x1)] [.inl (s0)] M r M' := by
  refine Ev.ifF fd_e115 rfl g (decide_eq_false h) ?_
  exact k
theorem r115_3 {X : fx_Sc} {M M' : fx_M} {r : Option fx_V} {x0 x1 z : Int} {M1 : fx_M} (hc : Ev X 117 0 [.inl (x1), .inl (0), .inl (23)] [] M (some (.inl z)) M1) (k : Ev X 115 7 [.inl (x0), .inl (x1)] [.inl (z)] M1 r M') : Ev X 115 3 [.inl (x0), .inl (x1)] [] M r M' := by
  refine Ev.run 3 fd_e115 (i' := 6) (ls' := [.inl (x0), .inl (x1)]) (st' := [.inl (23), .inl (0), .inl (x1)]) (M1 := M) rfl ?_
  refine Ev.callS (vs := [.inl (x1), .inl (0), .inl (23)]) (rest := []) (r1 := (some (.inl z))) fd_e115 rfl rfl rfl (Nat.le_of_ble_eq_true rfl) (Nat.le_of_ble_eq_true rfl) hc ?_
  exact k
theorem r115_7T {X : fx_Sc} {M M' : fx_M} {r : Option fx_V} {x0 x1 s0 : Int} (g : (-2147483648 ≤ s0 ∧ s0 < 2147483648)) (h : s0 = 0) (k : Ev X 115 10 [.inl (x0), .inl (x1)] [] M r M') : Ev X 115 7 [.inl (x0), .inl (x1)] [.inl (s0)] M r M' := by
  refine Ev.ifT fd_e115 rfl g (decide_eq_true h) ?_
  exact k
theorem r115_7F {X : fx_Sc} {M M' : fx_M} {r : Option fx_V} {x0 x1 s0 : Int} (g : (-2147483648 ≤ s0 ∧ s0 < 2147483648)) (h : s0 ≠ 0) (k : Ev X 115 8 [.inl (x0), .inl (x1)] [] M r M') : Ev X 115 7 [.inl (x0), .inl (x1)] [.inl (s0)] M r M' := by
  refine Ev.ifF fd_e115 rfl g (decide_eq_false h) ?_
  exact k
theorem r115_8 {X : fx_Sc} {M : fx_M} {x0 x1 : Int} : Ev X 115 8 [.inl (x0), .inl (x1)] [] M (some (.inl (1))) M := by
  refine Ev.run 2 fd_e115 (i' := 11) (ls' := [.inl (x0), .inl (x1)]) (st' := [.inl (1)]) (M1 := M) rfl ?_
  exact Ev.ret2 fd_e115 rfl rfl (by decide)
theorem r115_10 {X : fx_Sc} {M : fx_M} {x0 x1 : Int} : Ev X 115 10 [.inl (x0), .inl (x1)] [] M (some (.inl (0))) M := by
  refine Ev.run 1 fd_e115 (i' := 11) (ls' := [.inl (x0), .inl (x1)]) (st' := [.inl (0)]) (M1 := M) rfl ?_
  exact Ev.ret2 fd_e115 rfl rfl (by decide)
-- 116: FoldedStripsModel.isPanel(I)Z
theorem fd_e116 : fd_C 116 = fd_c116 := rfl
theorem r116_0 {X : fx_Sc} {M M' : fx_M} {r : Option fx_V} {x0 z : Int} {M1 : fx_M} (hc : Ev X 117 0 [.inl (x0), .inl (0), .inl (5)] [] M (some (.inl z)) M1) (k : Ev X 116 4 [.inl (x0)] [.inl (z)] M1 r M') : Ev X 116 0 [.inl (x0)] [] M r M' := by
  refine Ev.run 3 fd_e116 (i' := 3) (ls' := [.inl (x0)]) (st' := [.inl (5), .inl (0), .inl (x0)]) (M1 := M) rfl ?_
  refine Ev.callS (vs := [.inl (x0), .inl (0), .inl (5)]) (rest := []) (r1 := (some (.inl z))) fd_e116 rfl rfl rfl (Nat.le_of_ble_eq_true rfl) (Nat.le_of_ble_eq_true rfl) hc ?_
  exact k
theorem r116_4 {X : fx_Sc} {M : fx_M} {x0 s0 : Int} (g : (s0 = 0 ∨ s0 = 1)) : Ev X 116 4 [.inl (x0)] [.inl (s0)] M (some (.inl (s0))) M := by
  exact Ev.ret2 fd_e116 rfl rfl g
-- 117: FoldedStripsModel.in(III)Z
theorem fd_e117 : fd_C 117 = fd_c117 := rfl
theorem r117_0T {X : fx_Sc} {M M' : fx_M} {r : Option fx_V} {x0 x1 x2 : Int} (g : (-2147483648 ≤ x0 ∧ x0 < 2147483648) ∧ (-2147483648 ≤ x1 ∧ x1 < 2147483648)) (h : x0 < x1) (k : Ev X 117 8 [.inl (x0), .inl (x1), .inl (x2)] [] M r M') : Ev X 117 0 [.inl (x0), .inl (x1), .inl (x2)] [] M r M' := by
  refine Ev.run 2 fd_e117 (i' := 2) (ls' := [.inl (x0), .inl (x1), .inl (x2)]) (st' := [.inl (x1), .inl (x0)]) (M1 := M) rfl ?_
  refine Ev.icT fd_e117 rfl g.1 g.2 (decide_eq_true h) ?_
  exact k
theorem r117_0F {X : fx_Sc} {M M' : fx_M} {r : Option fx_V} {x0 x1 x2 : Int} (g : (-2147483648 ≤ x0 ∧ x0 < 2147483648) ∧ (-2147483648 ≤ x1 ∧ x1 < 2147483648)) (h : x1 ≤ x0) (k : Ev X 117 3 [.inl (x0), .inl (x1), .inl (x2)] [] M r M') : Ev X 117 0 [.inl (x0), .inl (x1), .inl (x2)] [] M r M' := by
  refine Ev.run 2 fd_e117 (i' := 2) (ls' := [.inl (x0), .inl (x1), .inl (x2)]) (st' := [.inl (x1), .inl (x0)]) (M1 := M) rfl ?_
  refine Ev.icF fd_e117 rfl g.1 g.2 (decide_eq_false (Int.not_lt.mpr h)) ?_
  exact k
theorem r117_3T {X : fx_Sc} {M M' : fx_M} {r : Option fx_V} {x0 x1 x2 : Int} (g : (-2147483648 ≤ x0 ∧ x0 < 2147483648) ∧ (-2147483648 ≤ x2 ∧ x2 < 2147483648)) (h : x2 < x0) (k : Ev X 117 8 [.inl (x0), .inl (x1), .inl (x2)] [] M r M') : Ev X 117 3 [.inl (x0), .inl (x1), .inl (x2)] [] M r M' := by
  refine Ev.run 2 fd_e117 (i' := 5) (ls' := [.inl (x0), .inl (x1), .inl (x2)]) (st' := [.inl (x2), .inl (x0)]) (M1 := M) rfl ?_
  refine Ev.icT fd_e117 rfl g.1 g.2 (decide_eq_true h) ?_
  exact k
theorem r117_3F {X : fx_Sc} {M M' : fx_M} {r : Option fx_V} {x0 x1 x2 : Int} (g : (-2147483648 ≤ x0 ∧ x0 < 2147483648) ∧ (-2147483648 ≤ x2 ∧ x2 < 2147483648)) (h : x0 ≤ x2) (k : Ev X 117 6 [.inl (x0), .inl (x1), .inl (x2)] [] M r M') : Ev X 117 3 [.inl (x0), .inl (x1), .inl (x2)] [] M r M' := by
  refine Ev.run 2 fd_e117 (i' := 5) (ls' := [.inl (x0), .inl (x1), .inl (x2)]) (st' := [.inl (x2), .inl (x0)]) (M1 := M) rfl ?_
  refine Ev.icF fd_e117 rfl g.1 g.2 (decide_eq_false (Int.not_lt.mpr h)) ?_
  exact k
theorem r117_6 {X : fx_Sc} {M : fx_M} {x0 x1 x2 : Int} : Ev X 117 6 [.inl (x0), .inl (x1), .inl (x2)] [] M (some (.inl (1))) M := by
  refine Ev.run 2 fd_e117 (i' := 9) (ls' := [.inl (x0), .inl (x1), .inl (x2)]) (st' := [.inl (1)]) (M1 := M) rfl ?_
  exact Ev.ret2 fd_e117 rfl rfl (by decide)
theorem r117_8 {X : fx_Sc} {M : fx_M} {x0 x1 x2 : Int} : Ev X 117 8 [.inl (x0), .inl (x1), .inl (x2)] [] M (some (.inl (0))) M := by
  refine Ev.run 1 fd_e117 (i' := 9) (ls' := [.inl (x0), .inl (x1), .inl (x2)]) (st' := [.inl (0)]) (M1 := M) rfl ?_
  exact Ev.ret2 fd_e117 rfl rfl (by decide)
-- 118: FoldedStripsModel.has(I)Z
theorem fd_e118 : fd_C 118 = fd_c118 := rfl
theorem r118_0T {X : fx_Sc} {M M' : fx_M} {r : Option fx_V} {x1 : Int} (g : (0 ≤ x1 ∧ x1 < ((150 : Nat) : Int)) ∧ (-2147483648 ≤ (M 57 (x1).toNat) ∧ (M 57 (x1).toNat) < 2147483648)) (h : (M 57 (x1).toNat) ≤ 0) (k : Ev X 118 7 [fx_f 56, .inl (x1)] [] M r M') : Ev X 118 0 [fx_f 56, .inl (x1)] [] M r M' := by
  refine Ev.run 3 fd_e118 (i' := 3) (ls' := [fx_f 56, .inl (x1)]) (st' := [.inl (x1), fx_f 57]) (M1 := M) rfl ?_
  refine Ev.iald fd_e118 rfl rfl (by decide) g.1 ?_
  refine Ev.ifT fd_e118 rfl g.2 (decide_eq_true h) ?_
  exact k
theorem r118_0F {X : fx_Sc} {M M' : fx_M} {r : Option fx_V} {x1 : Int} (g : (0 ≤ x1 ∧ x1 < ((150 : Nat) : Int)) ∧ (-2147483648 ≤ (M 57 (x1).toNat) ∧ (M 57 (x1).toNat) < 2147483648)) (h : 0 < (M 57 (x1).toNat)) (k : Ev X 118 5 [fx_f 56, .inl (x1)] [] M r M') : Ev X 118 0 [fx_f 56, .inl (x1)] [] M r M' := by
  refine Ev.run 3 fd_e118 (i' := 3) (ls' := [fx_f 56, .inl (x1)]) (st' := [.inl (x1), fx_f 57]) (M1 := M) rfl ?_
  refine Ev.iald fd_e118 rfl rfl (by decide) g.1 ?_
  refine Ev.ifF fd_e118 rfl g.2 (decide_eq_false (Int.not_le.mpr h)) ?_
  exact k
theorem r118_5 {X : fx_Sc} {M : fx_M} {x1 : Int} : Ev X 118 5 [fx_f 56, .inl (x1)] [] M (some (.inl (1))) M := by
  refine Ev.run 2 fd_e118 (i' := 8) (ls' := [fx_f 56, .inl (x1)]) (st' := [.inl (1)]) (M1 := M) rfl ?_
  exact Ev.ret2 fd_e118 rfl rfl (by decide)
theorem r118_7 {X : fx_Sc} {M : fx_M} {x1 : Int} : Ev X 118 7 [fx_f 56, .inl (x1)] [] M (some (.inl (0))) M := by
  refine Ev.run 1 fd_e118 (i' := 8) (ls' := [fx_f 56, .inl (x1)]) (st' := [.inl (0)]) (M1 := M) rfl ?_
  exact Ev.ret2 fd_e118 rfl rfl (by decide)
-- 119: FoldedStripsModel.record()V
theorem fd_e119 : fd_C 119 = fd_c119 := rfl
theorem r119_0T {X : fx_Sc} {M M' : fx_M} {r : Option fx_V} (g : (-2147483648 ≤ (M 56 16) ∧ (M 56 16) < 2147483648)) (h : (M 56 16) ≠ 6) (k : Ev X 119 27 [fx_f 56, fx_u] [] M r M') : Ev X 119 0 [fx_f 56, fx_u] [] M r M' := by
  refine Ev.run 3 fd_e119 (i' := 3) (ls' := [fx_f 56, fx_u]) (st' := [.inl (6), .inl ((M 56 16))]) (M1 := M) rfl ?_
  refine Ev.icT fd_e119 rfl g (by decide) (decide_eq_true h) ?_
  exact k
theorem r119_0F {X : fx_Sc} {M M' : fx_M} {r : Option fx_V} (g : (-2147483648 ≤ (M 56 16) ∧ (M 56 16) < 2147483648)) (h : (M 56 16) = 6) (k : Ev X 119 4 [fx_f 56, fx_u] [] M r M') : Ev X 119 0 [fx_f 56, fx_u] [] M r M' := by
  refine Ev.run 3 fd_e119 (i' := 3) (ls' := [fx_f 56, fx_u]) (st' := [.inl (6), .inl ((M 56 16))]) (M1 := M) rfl ?_
  refine Ev.icF fd_e119 rfl g (by decide) (decide_eq_false (not_not_intro h)) ?_
  exact k
theorem r119_4 {X : fx_Sc} {M M' : fx_M} {r : Option fx_V} (k : Ev X 119 6 [fx_f 56, .inl (0)] [] M r M') : Ev X 119 4 [fx_f 56, fx_u] [] M r M' := by
  refine Ev.run 2 fd_e119 (i' := 6) (ls' := [fx_f 56, .inl (0)]) (st' := []) (M1 := M) rfl ?_
  exact k
theorem r119_6T {X : fx_Sc} {M M' : fx_M} {r : Option fx_V} {x1 : Int} (g : (-2147483648 ≤ x1 ∧ x1 < 2147483648)) (h : 750 ≤ x1) (k : Ev X 119 21 [fx_f 56, .inl (x1)] [] M r M') : Ev X 119 6 [fx_f 56, .inl (x1)] [] M r M' := by
  refine Ev.run 2 fd_e119 (i' := 8) (ls' := [fx_f 56, .inl (x1)]) (st' := [.inl (750), .inl (x1)]) (M1 := M) rfl ?_
  refine Ev.icT fd_e119 rfl g (by decide) (decide_eq_true h) ?_
  exact k
theorem r119_6F {X : fx_Sc} {M M' : fx_M} {r : Option fx_V} {x1 : Int} (g : (-2147483648 ≤ x1 ∧ x1 < 2147483648)) (h : x1 < 750) (k : Ev X 119 9 [fx_f 56, .inl (x1)] [] M r M') : Ev X 119 6 [fx_f 56, .inl (x1)] [] M r M' := by
  refine Ev.run 2 fd_e119 (i' := 8) (ls' := [fx_f 56, .inl (x1)]) (st' := [.inl (750), .inl (x1)]) (M1 := M) rfl ?_
  refine Ev.icF fd_e119 rfl g (by decide) (decide_eq_false (Int.not_le.mpr h)) ?_
  exact k
theorem r119_9 {X : fx_Sc} {M M' : fx_M} {r : Option fx_V} {x1 : Int} (g : (0 ≤ (150 + x1) ∧ (150 + x1) < ((900 : Nat) : Int)) ∧ (0 ≤ x1 ∧ x1 < ((900 : Nat) : Int))) (k : Ev X 119 6 [fx_f 56, .inl ((x1 + 1))] [] (fx_set M 60 (fx_up (M 60) (x1).toNat (M 60 ((150 + x1)).toNat))) r M') : Ev X 119 9 [fx_f 56, .inl (x1)] [] M r M' := by
  refine Ev.run 8 fd_e119 (i' := 17) (ls' := [fx_f 56, .inl (x1)]) (st' := [.inl ((150 + x1)), fx_f 60, .inl (x1), fx_f 60]) (M1 := M) rfl ?_
  refine Ev.iald fd_e119 rfl rfl (by decide) g.1 ?_
  refine Ev.iast fd_e119 rfl rfl (by decide) g.2 ?_
  refine Ev.run 2 fd_e119 (i' := 6) (ls' := [fx_f 56, .inl ((x1 + 1))]) (st' := []) (M1 := (fx_set M 60 (fx_up (M 60) (x1).toNat (M 60 ((150 + x1)).toNat)))) rfl ?_
  exact k
theorem r119_21 {X : fx_Sc} {M M' : fx_M} {r : Option fx_V} {x1 : Int} (k : Ev X 119 29 [fx_f 56, .inl (0)] [] (fx_set M 56 (fx_up (M 56) 16 ((M 56 16) - 1))) r M') : Ev X 119 21 [fx_f 56, .inl (x1)] [] M r M' := by
  refine Ev.run 8 fd_e119 (i' := 29) (ls' := [fx_f 56, .inl (0)]) (st' := []) (M1 := (fx_set M 56 (fx_up (M 56) 16 ((M 56 16) - 1)))) rfl ?_
  exact k
theorem r119_27 {X : fx_Sc} {M M' : fx_M} {r : Option fx_V} {v1 : fx_V} (k : Ev X 119 29 [fx_f 56, .inl (0)] [] M r M') : Ev X 119 27 [fx_f 56, v1] [] M r M' := by
  refine Ev.run 2 fd_e119 (i' := 29) (ls' := [fx_f 56, .inl (0)]) (st' := []) (M1 := M) rfl ?_
  exact k
theorem r119_29T {X : fx_Sc} {M M' : fx_M} {r : Option fx_V} {x1 : Int} (g : (-2147483648 ≤ x1 ∧ x1 < 2147483648)) (h : 150 ≤ x1) (k : Ev X 119 47 [fx_f 56, .inl (x1)] [] M r M') : Ev X 119 29 [fx_f 56, .inl (x1)] [] M r M' := by
  refine Ev.run 2 fd_e119 (i' := 31) (ls' := [fx_f 56, .inl (x1)]) (st' := [.inl (150), .inl (x1)]) (M1 := M) rfl ?_
  refine Ev.icT fd_e119 rfl g (by decide) (decide_eq_true h) ?_
  exact k
theorem r119_29F {X : fx_Sc} {M M' : fx_M} {r : Option fx_V} {x1 : Int} (g : (-2147483648 ≤ x1 ∧ x1 < 2147483648)) (h : x1 < 150) (k : Ev X 119 32 [fx_f 56, .inl (x1)] [] M r M') : Ev X 119 29 [fx_f 56, .inl (x1)] [] M r M' := by
  refine Ev.run 2 fd_e119 (i' := 31) (ls' := [fx_f 56, .inl (x1)]) (st' := [.inl (150), .inl (x1)]) (M1 := M) rfl ?_
  refine Ev.icF fd_e119 rfl g (by decide) (decide_eq_false (Int.not_le.mpr h)) ?_
  exact k
theorem r119_32 {X : fx_Sc} {M M' : fx_M} {r : Option fx_V} {x1 : Int} (g : (0 ≤ x1 ∧ x1 < ((150 : Nat) : Int)) ∧ (0 ≤ ((150 * (M 56 16)) + x1) ∧ ((150 * (M 56 16)) + x1) < ((900 : Nat) : Int))) (k : Ev X 119 29 [fx_f 56, .inl ((x1 + 1))] [] (fx_set M 60 (fx_up (M 60) (((150 * (M 56 16)) + x1)).toNat (M 57 (x1).toNat))) r M') : Ev X 119 32 [fx_f 56, .inl (x1)] [] M r M' := by
  refine Ev.run 11 fd_e119 (i' := 43) (ls' := [fx_f 56, .inl (x1)]) (st' := [.inl (x1), fx_f 57, .inl (((150 * (M 56 16)) + x1)), fx_f 60]) (M1 := M) rfl ?_
  refine Ev.iald fd_e119 rfl rfl (by decide) g.1 ?_
  refine Ev.iast fd_e119 rfl rfl (by decide) g.2 ?_
  refine Ev.run 2 fd_e119 (i' := 29) (ls' := [fx_f 56, .inl ((x1 + 1))]) (st' := []) (M1 := (fx_set M 60 (fx_up (M 60) (((150 * (M 56 16)) + x1)).toNat (M 57 (x1).toNat)))) rfl ?_
  exact k
theorem r119_47 {X : fx_Sc} {M : fx_M} {x1 : Int} : Ev X 119 47 [fx_f 56, .inl (x1)] [] M none (fx_set M 56 (fx_up (M 56) 16 ((M 56 16) + 1))) := by
  refine Ev.run 6 fd_e119 (i' := 53) (ls' := [fx_f 56, .inl (x1)]) (st' := []) (M1 := (fx_set M 56 (fx_up (M 56) 16 ((M 56 16) + 1)))) rfl ?_
  exact Ev.retv fd_e119 rfl rfl
-- 120: FoldedStripsModel.joins(III)V
theorem fd_e120 : fd_C 120 = fd_c120 := rfl
theorem r120_0 {X : fx_Sc} {M : fx_M} {x1 x2 x3 : Int} (g : (0 ≤ ((24 * x1) + x2) ∧ ((24 * x1) + x2) < ((150 : Nat) : Int)) ∧ (0 ≤ ((24 * x1) + x3) ∧ ((24 * x1) + x3) < ((150 : Nat) : Int))) : Ev X 120 0 [fx_f 56, .inl (x1), .inl (x2), .inl (x3)] [] M none (fx_set (fx_set M 57 (fx_up (M 57) (((24 * x1) + x2)).toNat (x3 + 1))) 57 (fx_up ((fx_set M 57 (fx_up (M 57) (((24 * x1) + x2)).toNat (x3 + 1))) 57) (((24 * x1) + x3)).toNat (x2 + 1))) := by
  refine Ev.run 10 fd_e120 (i' := 10) (ls' := [fx_f 56, .inl (x1), .inl (x2), .inl (x3)]) (st' := [.inl ((x3 + 1)), .inl (((24 * x1) + x2)), fx_f 57]) (M1 := M) rfl ?_
  refine Ev.iast fd_e120 rfl rfl (by decide) g.1 ?_
  refine Ev.run 10 fd_e120 (i' := 21) (ls' := [fx_f 56, .inl (x1), .inl (x2), .inl (x3)]) (st' := [.inl ((x2 + 1)), .inl (((24 * x1) + x3)), fx_f 57]) (M1 := (fx_set M 57 (fx_up (M 57) (((24 * x1) + x2)).toNat (x3 + 1)))) rfl ?_
  refine Ev.iast fd_e120 rfl rfl (by decide) g.2 ?_
  exact Ev.retv fd_e120 rfl rfl
-- 121: FoldedStripsModel.strokesOf(I)I
theorem fd_e121 : fd_C 121 = fd_c121 := rfl
theorem r121_0 {X : fx_Sc} {M M' : fx_M} {r : Option fx_V} {x1 : Int} (k : Ev X 121 4 [fx_f 56, .inl (x1), .inl (0), .inl (0)] [] M r M') : Ev X 121 0 [fx_f 56, .inl (x1), fx_u, fx_u] [] M r M' := by
  refine Ev.run 4 fd_e121 (i' := 4) (ls' := [fx_f 56, .inl (x1), .inl (0), .inl (0)]) (st' := []) (M1 := M) rfl ?_
  exact k
theorem r121_4T {X : fx_Sc} {M M' : fx_M} {r : Option fx_V} {x1 x2 x3 : Int} (g : (-2147483648 ≤ x3 ∧ x3 < 2147483648)) (h : 24 ≤ x3) (k : Ev X 121 23 [fx_f 56, .inl (x1), .inl (x2), .inl (x3)] [] M r M') : Ev X 121 4 [fx_f 56, .inl (x1), .inl (x2), .inl (x3)] [] M r M' := by
  refine Ev.run 2 fd_e121 (i' := 6) (ls' := [fx_f 56, .inl (x1), .inl (x2), .inl (x3)]) (st' := [.inl (24), .inl (x3)]) (M1 := M) rfl ?_
  refine Ev.icT fd_e121 rfl g (by decide) (decide_eq_true h) ?_
  exact k
theorem r121_4F {X : fx_Sc} {M M' : fx_M} {r : Option fx_V} {x1 x2 x3 : Int} (g : (-2147483648 ≤ x3 ∧ x3 < 2147483648)) (h : x3 < 24) (k : Ev X 121 7 [fx_f 56, .inl (x1), .inl (x2), .inl (x3)] [] M r M') : Ev X 121 4 [fx_f 56, .inl (x1), .inl (x2), .inl (x3)] [] M r M' := by
  refine Ev.run 2 fd_e121 (i' := 6) (ls' := [fx_f 56, .inl (x1), .inl (x2), .inl (x3)]) (st' := [.inl (24), .inl (x3)]) (M1 := M) rfl ?_
  refine Ev.icF fd_e121 rfl g (by decide) (decide_eq_false (Int.not_le.mpr h)) ?_
  exact k
theorem r121_7 {X : fx_Sc} {M M' : fx_M} {r : Option fx_V} {x1 x2 x3 z : Int} {M1 : fx_M} (hc : Ev X 118 0 [fx_f 56, .inl (((24 * x1) + x3))] [] M (some (.inl z)) M1) (k : Ev X 121 15 [fx_f 56, .inl (x1), .inl (x2), .inl (x3)] [.inl (z), .inl (x2)] M1 r M') : Ev X 121 7 [fx_f 56, .inl (x1), .inl (x2), .inl (x3)] [] M r M' := by
  refine Ev.run 7 fd_e121 (i' := 14) (ls' := [fx_f 56, .inl (x1), .inl (x2), .inl (x3)]) (st' := [.inl (((24 * x1) + x3)), fx_f 56, .inl (x2)]) (M1 := M) rfl ?_
  refine Ev.callV (vs := [fx_f 56, .inl (((24 * x1) + x3))]) (rest := [.inl (x2)]) (r1 := (some (.inl z))) fd_e121 rfl rfl rfl (Nat.le_of_ble_eq_true rfl) (Nat.le_of_ble_eq_true rfl) rfl hc ?_
  exact k
theorem r121_15T {X : fx_Sc} {M M' : fx_M} {r : Option fx_V} {x1 x2 x3 s0 s1 : Int} (g : (-2147483648 ≤ s1 ∧ s1 < 2147483648)) (h : s1 = 0) (k : Ev X 121 18 [fx_f 56, .inl (x1), .inl (x2), .inl (x3)] [.inl (s0)] M r M') : Ev X 121 15 [fx_f 56, .inl (x1), .inl (x2), .inl (x3)] [.inl (s1), .inl (s0)] M r M' := by
  refine Ev.ifT fd_e121 rfl g (decide_eq_true h) ?_
  exact k
theorem r121_15F {X : fx_Sc} {M M' : fx_M} {r : Option fx_V} {x1 x2 x3 s0 s1 : Int} (g : (-2147483648 ≤ s1 ∧ s1 < 2147483648)) (h : s1 ≠ 0) (k : Ev X 121 16 [fx_f 56, .inl (x1), .inl (x2), .inl (x3)] [.inl (s0)] M r M') : Ev X 121 15 [fx_f 56, .inl (x1), .inl (x2), .inl (x3)] [.inl (s1), .inl (s0)] M r M' := by
  refine Ev.ifF fd_e121 rfl g (decide_eq_false h) ?_
  exact k
theorem r121_16 {X : fx_Sc} {M M' : fx_M} {r : Option fx_V} {x1 x2 x3 s0 : Int} (k : Ev X 121 4 [fx_f 56, .inl (x1), .inl ((s0 + 1)), .inl ((x3 + 1))] [] M r M') : Ev X 121 16 [fx_f 56, .inl (x1), .inl (x2), .inl (x3)] [.inl (s0)] M r M' := by
  refine Ev.run 6 fd_e121 (i' := 4) (ls' := [fx_f 56, .inl (x1), .inl ((s0 + 1)), .inl ((x3 + 1))]) (st' := []) (M1 := M) rfl ?_
  exact k
theorem r121_18 {X : fx_Sc} {M M' : fx_M} {r : Option fx_V} {x1 x2 x3 s0 : Int} (k : Ev X 121 4 [fx_f 56, .inl (x1), .inl ((s0 + 0)), .inl ((x3 + 1))] [] M r M') : Ev X 121 18 [fx_f 56, .inl (x1), .inl (x2), .inl (x3)] [.inl (s0)] M r M' := by
  refine Ev.run 5 fd_e121 (i' := 4) (ls' := [fx_f 56, .inl (x1), .inl ((s0 + 0)), .inl ((x3 + 1))]) (st' := []) (M1 := M) rfl ?_
  exact k
theorem r121_23 {X : fx_Sc} {M : fx_M} {x1 x2 x3 : Int} : Ev X 121 23 [fx_f 56, .inl (x1), .inl (x2), .inl (x3)] [] M (some (.inl ((fx_div x2 2)))) M := by
  refine Ev.run 2 fd_e121 (i' := 25) (ls' := [fx_f 56, .inl (x1), .inl (x2), .inl (x3)]) (st' := [.inl (2), .inl (x2)]) (M1 := M) rfl ?_
  refine Ev.div fd_e121 rfl (by decide) ?_
  exact Ev.ret1 fd_e121 rfl rfl
-- 122: FoldedStripsModel.rub(II)I
theorem fd_e122 : fd_C 122 = fd_c122 := rfl
theorem r122_0 {X : fx_Sc} {M M' : fx_M} {r : Option fx_V} {x1 x2 z : Int} {M1 : fx_M} (hc : Ev X 115 0 [.inl (x1), .inl (x2)] [] M (some (.inl z)) M1) (k : Ev X 122 3 [fx_f 56, .inl (x1), .inl (x2), fx_u] [.inl (z)] M1 r M') : Ev X 122 0 [fx_f 56, .inl (x1), .inl (x2), fx_u] [] M r M' := by
  refine Ev.run 2 fd_e122 (i' := 2) (ls' := [fx_f 56, .inl (x1), .inl (x2), fx_u]) (st' := [.inl (x2), .inl (x1)]) (M1 := M) rfl ?_
  refine Ev.callS (vs := [.inl (x1), .inl (x2)]) (rest := []) (r1 := (some (.inl z))) fd_e122 rfl rfl rfl (Nat.le_of_ble_eq_true rfl) (Nat.le_of_ble_eq_true rfl) hc ?_
  exact k
theorem r122_3T {X : fx_Sc} {M M' : fx_M} {r : Option fx_V} {x1 x2 s0 : Int} (g : (-2147483648 ≤ s0 ∧ s0 < 2147483648)) (h : s0 ≠ 0) (k : Ev X 122 6 [fx_f 56, .inl (x1), .inl (x2), fx_u] [] M r M') : Ev X 122 3 [fx_f 56, .inl (x1), .inl (x2), fx_u] [.inl (s0)] M r M' := by
  refine Ev.ifT fd_e122 rfl g (decide_eq_true h) ?_
  exact k
theorem r122_3F {X : fx_Sc} {M M' : fx_M} {r : Option fx_V} {x1 x2 s0 : Int} (g : (-2147483648 ≤ s0 ∧ s0 < 2147483648)) (h : s0 = 0) (k : Ev X 122 4 [fx_f 56, .inl (x1), .inl (x2), fx_u] [] M r M') : Ev X 122 3 [fx_f 56, .inl (x1), .inl (x2), fx_u] [.inl (s0)] M r M' := by
  refine Ev.ifF fd_e122 rfl g (decide_eq_false (not_not_intro h)) ?_
  exact k
theorem r122_4 {X : fx_Sc} {M : fx_M} {x1 x2 : Int} : Ev X 122 4 [fx_f 56, .inl (x1), .inl (x2), fx_u] [] M (some (.inl ((-1)))) M := by
  refine Ev.run 1 fd_e122 (i' := 5) (ls' := [fx_f 56, .inl (x1), .inl (x2), fx_u]) (st' := [.inl ((-1))]) (M1 := M) rfl ?_
  exact Ev.ret1 fd_e122 rfl rfl
theorem r122_6 {X : fx_Sc} {M M' : fx_M} {r : Option fx_V} {x1 x2 z : Int} {M1 : fx_M} (hc : Ev X 118 0 [fx_f 56, .inl (((24 * x1) + x2))] [] M (some (.inl z)) M1) (k : Ev X 122 13 [fx_f 56, .inl (x1), .inl (x2), fx_u] [.inl (z)] M1 r M') : Ev X 122 6 [fx_f 56, .inl (x1), .inl (x2), fx_u] [] M r M' := by
  refine Ev.run 6 fd_e122 (i' := 12) (ls' := [fx_f 56, .inl (x1), .inl (x2), fx_u]) (st' := [.inl (((24 * x1) + x2)), fx_f 56]) (M1 := M) rfl ?_
  refine Ev.callV (vs := [fx_f 56, .inl (((24 * x1) + x2))]) (rest := []) (r1 := (some (.inl z))) fd_e122 rfl rfl rfl (Nat.le_of_ble_eq_true rfl) (Nat.le_of_ble_eq_true rfl) rfl hc ?_
  exact k
theorem r122_13T {X : fx_Sc} {M M' : fx_M} {r : Option fx_V} {x1 x2 s0 : Int} (g : (-2147483648 ≤ s0 ∧ s0 < 2147483648)) (h : s0 ≠ 0) (k : Ev X 122 16 [fx_f 56, .inl (x1), .inl (x2), fx_u] [] M r M') : Ev X 122 13 [fx_f 56, .inl (x1), .inl (x2), fx_u] [.inl (s0)] M r M' := by
  refine Ev.ifT fd_e122 rfl g (decide_eq_true h) ?_
  exact k
theorem r122_13F {X : fx_Sc} {M M' : fx_M} {r : Option fx_V} {x1 x2 s0 : Int} (g : (-2147483648 ≤ s0 ∧ s0 < 2147483648)) (h : s0 = 0) (k : Ev X 122 14 [fx_f 56, .inl (x1), .inl (x2), fx_u] [] M r M') : Ev X 122 13 [fx_f 56, .inl (x1), .inl (x2), fx_u] [.inl (s0)] M r M' := by
  refine Ev.ifF fd_e122 rfl g (decide_eq_false (not_not_intro h)) ?_
  exact k
theorem r122_14 {X : fx_Sc} {M : fx_M} {x1 x2 : Int} : Ev X 122 14 [fx_f 56, .inl (x1), .inl (x2), fx_u] [] M (some (.inl ((-5)))) M := by
  refine Ev.run 1 fd_e122 (i' := 15) (ls' := [fx_f 56, .inl (x1), .inl (x2), fx_u]) (st' := [.inl ((-5))]) (M1 := M) rfl ?_
  exact Ev.ret1 fd_e122 rfl rfl
theorem r122_16 {X : fx_Sc} {M M' : fx_M} {r : Option fx_V} {x1 x2 : Int} {M1 : fx_M} (hc : Ev X 119 0 [fx_f 56, fx_u] [] M none M1) (k : Ev X 122 18 [fx_f 56, .inl (x1), .inl (x2), fx_u] [] M1 r M') : Ev X 122 16 [fx_f 56, .inl (x1), .inl (x2), fx_u] [] M r M' := by
  refine Ev.run 1 fd_e122 (i' := 17) (ls' := [fx_f 56, .inl (x1), .inl (x2), fx_u]) (st' := [fx_f 56]) (M1 := M) rfl ?_
  refine Ev.callV (vs := [fx_f 56]) (rest := []) (r1 := none) fd_e122 rfl rfl rfl (Nat.le_of_ble_eq_true rfl) (Nat.le_of_ble_eq_true rfl) rfl hc ?_
  exact k
theorem r122_18 {X : fx_Sc} {M : fx_M} {x1 x2 : Int} (g : (0 ≤ ((24 * x1) + x2) ∧ ((24 * x1) + x2) < ((150 : Nat) : Int)) ∧ (0 ≤ ((24 * x1) + ((M 57 (((24 * x1) + x2)).toNat) - 1)) ∧ ((24 * x1) + ((M 57 (((24 * x1) + x2)).toNat) - 1)) < ((150 : Nat) : Int))) : Ev X 122 18 [fx_f 56, .inl (x1), .inl (x2), fx_u] [] M (some (.inl (((M 57 (((24 * x1) + x2)).toNat) - 1)))) (fx_set (fx_set M 57 (fx_up (M 57) (((24 * x1) + x2)).toNat 0)) 57 (fx_up ((fx_set M 57 (fx_up (M 57) (((24 * x1) + x2)).toNat 0)) 57) (((24 * x1) + ((M 57 (((24 * x1) + x2)).toNat) - 1))).toNat 0)) := by
  refine Ev.run 7 fd_e122 (i' := 25) (ls' := [fx_f 56, .inl (x1), .inl (x2), fx_u]) (st' := [.inl (((24 * x1) + x2)), fx_f 57]) (M1 := M) rfl ?_
  refine Ev.iald fd_e122 rfl rfl (by decide) g.1 ?_
  refine Ev.run 11 fd_e122 (i' := 37) (ls' := [fx_f 56, .inl (x1), .inl (x2), .inl (((M 57 (((24 * x1) + x2)).toNat) - 1))]) (st' := [.inl (0), .inl (((24 * x1) + x2)), fx_f 57]) (M1 := M) rfl ?_
  refine Ev.iast fd_e122 rfl rfl (by decide) g.1 ?_
  refine Ev.run 8 fd_e122 (i' := 46) (ls' := [fx_f 56, .inl (x1), .inl (x2), .inl (((M 57 (((24 * x1) + x2)).toNat) - 1))]) (st' := [.inl (0), .inl (((24 * x1) + ((M 57 (((24 * x1) + x2)).toNat) - 1))), fx_f 57]) (M1 := (fx_set M 57 (fx_up (M 57) (((24 * x1) + x2)).toNat 0))) rfl ?_
  refine Ev.iast fd_e122 rfl rfl (by decide) g.2 ?_
  refine Ev.run 1 fd_e122 (i' := 48) (ls' := [fx_f 56, .inl (x1), .inl (x2), .inl (((M 57 (((24 * x1) + x2)).toNat) - 1))]) (st' := [.inl (((M 57 (((24 * x1) + x2)).toNat) - 1))]) (M1 := (fx_set (fx_set M 57 (fx_up (M 57) (((24 * x1) + x2)).toNat 0)) 57 (fx_up ((fx_set M 57 (fx_up (M 57) (((24 * x1) + x2)).toNat 0)) 57) (((24 * x1) + ((M 57 (((24 * x1) + x2)).toNat) - 1))).toNat 0))) rfl ?_
  exact Ev.ret1 fd_e122 rfl rfl
-- 123: FoldedStripsModel.clear(I)I
theorem fd_e123 : fd_C 123 = fd_c123 := rfl
theorem r123_0 {X : fx_Sc} {M M' : fx_M} {r : Option fx_V} {x1 z : Int} {M1 : fx_M} (hc : Ev X 116 0 [.inl (x1)] [] M (some (.inl z)) M1) (k : Ev X 123 2 [fx_f 56, .inl (x1), fx_u] [.inl (z)] M1 r M') : Ev X 123 0 [fx_f 56, .inl (x1), fx_u] [] M r M' := by
  refine Ev.run 1 fd_e123 (i' := 1) (ls' := [fx_f 56, .inl (x1), fx_u]) (st' := [.inl (x1)]) (M1 := M) rfl ?_
  refine Ev.callS (vs := [.inl (x1)]) (rest := []) (r1 := (some (.inl z))) fd_e123 rfl rfl rfl (Nat.le_of_ble_eq_true rfl) (Nat.le_of_ble_eq_true rfl) hc ?_
  exact k
theorem r123_2T {X : fx_Sc} {M M' : fx_M} {r : Option fx_V} {x1 s0 : Int} (g : (-2147483648 ≤ s0 ∧ s0 < 2147483648)) (h : s0 ≠ 0) (k : Ev X 123 5 [fx_f 56, .inl (x1), fx_u] [] M r M') : Ev X 123 2 [fx_f 56, .inl (x1), fx_u] [.inl (s0)] M r M' := by
  refine Ev.ifT fd_e123 rfl g (decide_eq_true h) ?_
  exact k
theorem r123_2F {X : fx_Sc} {M M' : fx_M} {r : Option fx_V} {x1 s0 : Int} (g : (-2147483648 ≤ s0 ∧ s0 < 2147483648)) (h : s0 = 0) (k : Ev X 123 3 [fx_f 56, .inl (x1), fx_u] [] M r M') : Ev X 123 2 [fx_f 56, .inl (x1), fx_u] [.inl (s0)] M r M' := by
  refine Ev.ifF fd_e123 rfl g (decide_eq_false (not_not_intro h)) ?_
  exact k
theorem r123_3 {X : fx_Sc} {M : fx_M} {x1 : Int} : Ev X 123 3 [fx_f 56, .inl (x1), fx_u] [] M (some (.inl ((-1)))) M := by
  refine Ev.run 1 fd_e123 (i' := 4) (ls' := [fx_f 56, .inl (x1), fx_u]) (st' := [.inl ((-1))]) (M1 := M) rfl ?_
  exact Ev.ret1 fd_e123 rfl rfl
theorem r123_5 {X : fx_Sc} {M M' : fx_M} {r : Option fx_V} {x1 : Int} {M1 : fx_M} (hc : Ev X 119 0 [fx_f 56, fx_u] [] M none M1) (k : Ev X 123 7 [fx_f 56, .inl (x1), fx_u] [] M1 r M') : Ev X 123 5 [fx_f 56, .inl (x1), fx_u] [] M r M' := by
  refine Ev.run 1 fd_e123 (i' := 6) (ls' := [fx_f 56, .inl (x1), fx_u]) (st' := [fx_f 56]) (M1 := M) rfl ?_
  refine Ev.callV (vs := [fx_f 56]) (rest := []) (r1 := none) fd_e123 rfl rfl rfl (Nat.le_of_ble_eq_true rfl) (Nat.le_of_ble_eq_true rfl) rfl hc ?_
  exact k
theorem r123_7 {X : fx_Sc} {M M' : fx_M} {r : Option fx_V} {x1 z : Int} {M1 : fx_M} (hc : Ev X 121 0 [fx_f 56, .inl (x1), fx_u, fx_u] [] M (some (.inl z)) M1) (k : Ev X 123 10 [fx_f 56, .inl (x1), fx_u] [.inl (z)] M1 r M') : Ev X 123 7 [fx_f 56, .inl (x1), fx_u] [] M r M' := by
  refine Ev.run 2 fd_e123 (i' := 9) (ls' := [fx_f 56, .inl (x1), fx_u]) (st' := [.inl (x1), fx_f 56]) (M1 := M) rfl ?_
  refine Ev.callV (vs := [fx_f 56, .inl (x1)]) (rest := []) (r1 := (some (.inl z))) fd_e123 rfl rfl rfl (Nat.le_of_ble_eq_true rfl) (Nat.le_of_ble_eq_true rfl) rfl hc ?_
  exact k
theorem r123_10 {X : fx_Sc} {M M' : fx_M} {r : Option fx_V} {x1 s0 : Int} {M1 : fx_M} (hc : Ev X 124 0 [fx_f 56, .inl (x1), fx_u] [] M none M1) (k : Ev X 123 14 [fx_f 56, .inl (x1), .inl (s0)] [] M1 r M') : Ev X 123 10 [fx_f 56, .inl (x1), fx_u] [.inl (s0)] M r M' := by
  refine Ev.run 3 fd_e123 (i' := 13) (ls' := [fx_f 56, .inl (x1), .inl (s0)]) (st' := [.inl (x1), fx_f 56]) (M1 := M) rfl ?_
  refine Ev.callV (vs := [fx_f 56, .inl (x1)]) (rest := []) (r1 := none) fd_e123 rfl rfl rfl (Nat.le_of_ble_eq_true rfl) (Nat.le_of_ble_eq_true rfl) rfl hc ?_
  exact k
theorem r123_14 {X : fx_Sc} {M : fx_M} {x1 x2 : Int} : Ev X 123 14 [fx_f 56, .inl (x1), .inl (x2)] [] M (some (.inl (x2))) M := by
  refine Ev.run 1 fd_e123 (i' := 15) (ls' := [fx_f 56, .inl (x1), .inl (x2)]) (st' := [.inl (x2)]) (M1 := M) rfl ?_
  exact Ev.ret1 fd_e123 rfl rfl
-- 124: FoldedStripsModel.rubsAll(I)V
theorem fd_e124 : fd_C 124 = fd_c124 := rfl
theorem r124_0 {X : fx_Sc} {M M' : fx_M} {r : Option fx_V} {x1 : Int} (k : Ev X 124 2 [fx_f 56, .inl (x1), .inl (0)] [] M r M') : Ev X 124 0 [fx_f 56, .inl (x1), fx_u] [] M r M' := by
  refine Ev.run 2 fd_e124 (i' := 2) (ls' := [fx_f 56, .inl (x1), .inl (0)]) (st' := []) (M1 := M) rfl ?_
  exact k
theorem r124_2T {X : fx_Sc} {M M' : fx_M} {r : Option fx_V} {x1 x2 : Int} (g : (-2147483648 ≤ x2 ∧ x2 < 2147483648)) (h : 24 ≤ x2) (k : Ev X 124 16 [fx_f 56, .inl (x1), .inl (x2)] [] M r M') : Ev X 124 2 [fx_f 56, .inl (x1), .inl (x2)] [] M r M' := by
  refine Ev.run 2 fd_e124 (i' := 4) (ls' := [fx_f 56, .inl (x1), .inl (x2)]) (st' := [.inl (24), .inl (x2)]) (M1 := M) rfl ?_
  refine Ev.icT fd_e124 rfl g (by decide) (decide_eq_true h) ?_
  exact k
theorem r124_2F {X : fx_Sc} {M M' : fx_M} {r : Option fx_V} {x1 x2 : Int} (g : (-2147483648 ≤ x2 ∧ x2 < 2147483648)) (h : x2 < 24) (k : Ev X 124 5 [fx_f 56, .inl (x1), .inl (x2)] [] M r M') : Ev X 124 2 [fx_f 56, .inl (x1), .inl (x2)] [] M r M' := by
  refine Ev.run 2 fd_e124 (i' := 4) (ls' := [fx_f 56, .inl (x1), .inl (x2)]) (st' := [.inl (24), .inl (x2)]) (M1 := M) rfl ?_
  refine Ev.icF fd_e124 rfl g (by decide) (decide_eq_false (Int.not_le.mpr h)) ?_
  exact k
theorem r124_5 {X : fx_Sc} {M M' : fx_M} {r : Option fx_V} {x1 x2 : Int} (g : (0 ≤ ((24 * x1) + x2) ∧ ((24 * x1) + x2) < ((150 : Nat) : Int))) (k : Ev X 124 2 [fx_f 56, .inl (x1), .inl ((x2 + 1))] [] (fx_set M 57 (fx_up (M 57) (((24 * x1) + x2)).toNat 0)) r M') : Ev X 124 5 [fx_f 56, .inl (x1), .inl (x2)] [] M r M' := by
  refine Ev.run 8 fd_e124 (i' := 13) (ls' := [fx_f 56, .inl (x1), .inl (x2)]) (st' := [.inl (0), .inl (((24 * x1) + x2)), fx_f 57]) (M1 := M) rfl ?_
  refine Ev.iast fd_e124 rfl rfl (by decide) g ?_
  refine Ev.run 2 fd_e124 (i' := 2) (ls' := [fx_f 56, .inl (x1), .inl ((x2 + 1))]) (st' := []) (M1 := (fx_set M 57 (fx_up (M 57) (((24 * x1) + x2)).toNat 0))) rfl ?_
  exact k
theorem r124_16 {X : fx_Sc} {M : fx_M} {x1 x2 : Int} : Ev X 124 16 [fx_f 56, .inl (x1), .inl (x2)] [] M none M := by
  exact Ev.retv fd_e124 rfl rfl
-- 125: FoldedStripsModel.slide(II)I
theorem fd_e125 : fd_C 125 = fd_c125 := rfl
theorem r125_0 {X : fx_Sc} {M M' : fx_M} {r : Option fx_V} {x1 x2 z : Int} {M1 : fx_M} (hc : Ev X 116 0 [.inl (x1)] [] M (some (.inl z)) M1) (k : Ev X 125 2 [fx_f 56, .inl (x1), .inl (x2)] [.inl (z)] M1 r M') : Ev X 125 0 [fx_f 56, .inl (x1), .inl (x2)] [] M r M' := by
  refine Ev.run 1 fd_e125 (i' := 1) (ls' := [fx_f 56, .inl (x1), .inl (x2)]) (st' := [.inl (x1)]) (M1 := M) rfl ?_
  refine Ev.callS (vs := [.inl (x1)]) (rest := []) (r1 := (some (.inl z))) fd_e125 rfl rfl rfl (Nat.le_of_ble_eq_true rfl) (Nat.le_of_ble_eq_true rfl) hc ?_
  exact k
theorem r125_2T {X : fx_Sc} {M M' : fx_M} {r : Option fx_V} {x1 x2 s0 : Int} (g : (-2147483648 ≤ s0 ∧ s0 < 2147483648)) (h : s0 ≠ 0) (k : Ev X 125 5 [fx_f 56, .inl (x1), .inl (x2)] [] M r M') : Ev X 125 2 [fx_f 56, .inl (x1), .inl (x2)] [.inl (s0)] M r M' := by
  refine Ev.ifT fd_e125 rfl g (decide_eq_true h) ?_
  exact k
theorem r125_2F {X : fx_Sc} {M M' : fx_M} {r : Option fx_V} {x1 x2 s0 : Int} (g : (-2147483648 ≤ s0 ∧ s0 < 2147483648)) (h : s0 = 0) (k : Ev X 125 3 [fx_f 56, .inl (x1), .inl (x2)] [] M r M') : Ev X 125 2 [fx_f 56, .inl (x1), .inl (x2)] [.inl (s0)] M r M' := by
  refine Ev.ifF fd_e125 rfl g (decide_eq_false (not_not_intro h)) ?_
  exact k
theorem r125_3 {X : fx_Sc} {M : fx_M} {x1 x2 : Int} : Ev X 125 3 [fx_f 56, .inl (x1), .inl (x2)] [] M (some (.inl ((-1)))) M := by
  refine Ev.run 1 fd_e125 (i' := 4) (ls' := [fx_f 56, .inl (x1), .inl (x2)]) (st' := [.inl ((-1))]) (M1 := M) rfl ?_
  exact Ev.ret1 fd_e125 rfl rfl
theorem r125_5 {X : fx_Sc} {M M' : fx_M} {r : Option fx_V} {x1 x2 z : Int} {M1 : fx_M} (hc : Ev X 117 0 [.inl (x2), .inl ((-11)), .inl (11)] [] M (some (.inl z)) M1) (k : Ev X 125 9 [fx_f 56, .inl (x1), .inl (x2)] [.inl (z)] M1 r M') : Ev X 125 5 [fx_f 56, .inl (x1), .inl (x2)] [] M r M' := by
  refine Ev.run 3 fd_e125 (i' := 8) (ls' := [fx_f 56, .inl (x1), .inl (x2)]) (st' := [.inl (11), .inl ((-11)), .inl (x2)]) (M1 := M) rfl ?_
  refine Ev.callS (vs := [.inl (x2), .inl ((-11)), .inl (11)]) (rest := []) (r1 := (some (.inl z))) fd_e125 rfl rfl rfl (Nat.le_of_ble_eq_true rfl) (Nat.le_of_ble_eq_true rfl) hc ?_
  exact k
theorem r125_9T {X : fx_Sc} {M M' : fx_M} {r : Option fx_V} {x1 x2 s0 : Int} (g : (-2147483648 ≤ s0 ∧ s0 < 2147483648)) (h : s0 = 0) (k : Ev X 125 12 [fx_f 56, .inl (x1), .inl (x2)] [] M r M') : Ev X 125 9 [fx_f 56, .inl (x1), .inl (x2)] [.inl (s0)] M r M' := by
  refine Ev.ifT fd_e125 rfl g (decide_eq_true h) ?_
  exact k
theorem r125_9F {X : fx_Sc} {M M' : fx_M} {r : Option fx_V} {x1 x2 s0 : Int} (g : (-2147483648 ≤ s0 ∧ s0 < 2147483648)) (h : s0 ≠ 0) (k : Ev X 125 10 [fx_f 56, .inl (x1), .inl (x2)] [] M r M') : Ev X 125 9 [fx_f 56, .inl (x1), .inl (x2)] [.inl (s0)] M r M' := by
  refine Ev.ifF fd_e125 rfl g (decide_eq_false h) ?_
  exact k
theorem r125_10T {X : fx_Sc} {M M' : fx_M} {r : Option fx_V} {x1 x2 : Int} (g : (-2147483648 ≤ x2 ∧ x2 < 2147483648)) (h : x2 ≠ 0) (k : Ev X 125 14 [fx_f 56, .inl (x1), .inl (x2)] [] M r M') : Ev X 125 10 [fx_f 56, .inl (x1), .inl (x2)] [] M r M' := by
  refine Ev.run 1 fd_e125 (i' := 11) (ls' := [fx_f 56, .inl (x1), .inl (x2)]) (st' := [.inl (x2)]) (M1 := M) rfl ?_
  refine Ev.ifT fd_e125 rfl g (decide_eq_true h) ?_
  exact k
theorem r125_10F {X : fx_Sc} {M M' : fx_M} {r : Option fx_V} {x1 x2 : Int} (g : (-2147483648 ≤ x2 ∧ x2 < 2147483648)) (h : x2 = 0) (k : Ev X 125 12 [fx_f 56, .inl (x1), .inl (x2)] [] M r M') : Ev X 125 10 [fx_f 56, .inl (x1), .inl (x2)] [] M r M' := by
  refine Ev.run 1 fd_e125 (i' := 11) (ls' := [fx_f 56, .inl (x1), .inl (x2)]) (st' := [.inl (x2)]) (M1 := M) rfl ?_
  refine Ev.ifF fd_e125 rfl g (decide_eq_false (not_not_intro h)) ?_
  exact k
theorem r125_12 {X : fx_Sc} {M : fx_M} {x1 x2 : Int} : Ev X 125 12 [fx_f 56, .inl (x1), .inl (x2)] [] M (some (.inl ((-2)))) M := by
  refine Ev.run 1 fd_e125 (i' := 13) (ls' := [fx_f 56, .inl (x1), .inl (x2)]) (st' := [.inl ((-2))]) (M1 := M) rfl ?_
  exact Ev.ret1 fd_e125 rfl rfl
theorem r125_14 {X : fx_Sc} {M M' : fx_M} {r : Option fx_V} {x1 x2 z : Int} {M1 : fx_M} (hc : Ev X 126 0 [fx_f 56, .inl (x1), .inl (x2), fx_u, fx_u] [] M (some (.inl z)) M1) (k : Ev X 125 18 [fx_f 56, .inl (x1), .inl (x2)] [.inl (z)] M1 r M') : Ev X 125 14 [fx_f 56, .inl (x1), .inl (x2)] [] M r M' := by
  refine Ev.run 3 fd_e125 (i' := 17) (ls' := [fx_f 56, .inl (x1), .inl (x2)]) (st' := [.inl (x2), .inl (x1), fx_f 56]) (M1 := M) rfl ?_
  refine Ev.callV (vs := [fx_f 56, .inl (x1), .inl (x2)]) (rest := []) (r1 := (some (.inl z))) fd_e125 rfl rfl rfl (Nat.le_of_ble_eq_true rfl) (Nat.le_of_ble_eq_true rfl) rfl hc ?_
  exact k
theorem r125_18T {X : fx_Sc} {M M' : fx_M} {r : Option fx_V} {x1 x2 s0 : Int} (g : (-2147483648 ≤ s0 ∧ s0 < 2147483648)) (h : s0 ≠ 0) (k : Ev X 125 21 [fx_f 56, .inl (x1), .inl (x2)] [] M r M') : Ev X 125 18 [fx_f 56, .inl (x1), .inl (x2)] [.inl (s0)] M r M' := by
  refine Ev.ifT fd_e125 rfl g (decide_eq_true h) ?_
  exact k
theorem r125_18F {X : fx_Sc} {M M' : fx_M} {r : Option fx_V} {x1 x2 s0 : Int} (g : (-2147483648 ≤ s0 ∧ s0 < 2147483648)) (h : s0 = 0) (k : Ev X 125 19 [fx_f 56, .inl (x1), .inl (x2)] [] M r M') : Ev X 125 18 [fx_f 56, .inl (x1), .inl (x2)] [.inl (s0)] M r M' := by
  refine Ev.ifF fd_e125 rfl g (decide_eq_false (not_not_intro h)) ?_
  exact k
theorem r125_19 {X : fx_Sc} {M : fx_M} {x1 x2 : Int} : Ev X 125 19 [fx_f 56, .inl (x1), .inl (x2)] [] M (some (.inl ((-5)))) M := by
  refine Ev.run 1 fd_e125 (i' := 20) (ls' := [fx_f 56, .inl (x1), .inl (x2)]) (st' := [.inl ((-5))]) (M1 := M) rfl ?_
  exact Ev.ret1 fd_e125 rfl rfl
theorem r125_21 {X : fx_Sc} {M M' : fx_M} {r : Option fx_V} {x1 x2 : Int} {M1 : fx_M} (hc : Ev X 119 0 [fx_f 56, fx_u] [] M none M1) (k : Ev X 125 23 [fx_f 56, .inl (x1), .inl (x2)] [] M1 r M') : Ev X 125 21 [fx_f 56, .inl (x1), .inl (x2)] [] M r M' := by
  refine Ev.run 1 fd_e125 (i' := 22) (ls' := [fx_f 56, .inl (x1), .inl (x2)]) (st' := [fx_f 56]) (M1 := M) rfl ?_
  refine Ev.callV (vs := [fx_f 56]) (rest := []) (r1 := none) fd_e125 rfl rfl rfl (Nat.le_of_ble_eq_true rfl) (Nat.le_of_ble_eq_true rfl) rfl hc ?_
  exact k
theorem r125_23 {X : fx_Sc} {M M' : fx_M} {r : Option fx_V} {x1 x2 : Int} {M1 : fx_M} (hc : Ev X 127 0 [fx_f 56, .inl (x1), .inl (x2), .inl (0), .inl (0), fx_u, fx_u] [] M none M1) (k : Ev X 125 29 [fx_f 56, .inl (x1), .inl (x2)] [] M1 r M') : Ev X 125 23 [fx_f 56, .inl (x1), .inl (x2)] [] M r M' := by
  refine Ev.run 5 fd_e125 (i' := 28) (ls' := [fx_f 56, .inl (x1), .inl (x2)]) (st' := [.inl (0), .inl (0), .inl (x2), .inl (x1), fx_f 56]) (M1 := M) rfl ?_
  refine Ev.callV (vs := [fx_f 56, .inl (x1), .inl (x2), .inl (0), .inl (0)]) (rest := []) (r1 := none) fd_e125 rfl rfl rfl (Nat.le_of_ble_eq_true rfl) (Nat.le_of_ble_eq_true rfl) rfl hc ?_
  exact k
theorem r125_29 {X : fx_Sc} {M M' : fx_M} {r : Option fx_V} {x1 x2 z : Int} {M1 : fx_M} (hc : Ev X 129 0 [fx_f 56] [] M (some (.inl z)) M1) (k : Ev X 125 31 [fx_f 56, .inl (x1), .inl (x2)] [.inl (z)] M1 r M') : Ev X 125 29 [fx_f 56, .inl (x1), .inl (x2)] [] M r M' := by
  refine Ev.run 1 fd_e125 (i' := 30) (ls' := [fx_f 56, .inl (x1), .inl (x2)]) (st' := [fx_f 56]) (M1 := M) rfl ?_
  refine Ev.callV (vs := [fx_f 56]) (rest := []) (r1 := (some (.inl z))) fd_e125 rfl rfl rfl (Nat.le_of_ble_eq_true rfl) (Nat.le_of_ble_eq_true rfl) rfl hc ?_
  exact k
theorem r125_31 {X : fx_Sc} {M : fx_M} {x1 x2 s0 : Int} : Ev X 125 31 [fx_f 56, .inl (x1), .inl (x2)] [.inl (s0)] M (some (.inl (s0))) M := by
  exact Ev.ret1 fd_e125 rfl rfl
-- 126: FoldedStripsModel.canSlide(II)Z
theorem fd_e126 : fd_C 126 = fd_c126 := rfl
theorem r126_0 {X : fx_Sc} {M M' : fx_M} {r : Option fx_V} {x1 x2 : Int} (k : Ev X 126 4 [fx_f 56, .inl (x1), .inl (x2), .inl (1), .inl (0)] [] M r M') : Ev X 126 0 [fx_f 56, .inl (x1), .inl (x2), fx_u, fx_u] [] M r M' := by
  refine Ev.run 4 fd_e126 (i' := 4) (ls' := [fx_f 56, .inl (x1), .inl (x2), .inl (1), .inl (0)]) (st' := []) (M1 := M) rfl ?_
  exact k
theorem r126_4T {X : fx_Sc} {M M' : fx_M} {r : Option fx_V} {x1 x2 x3 x4 : Int} (g : (-2147483648 ≤ x4 ∧ x4 < 2147483648)) (h : 24 ≤ x4) (k : Ev X 126 32 [fx_f 56, .inl (x1), .inl (x2), .inl (x3), .inl (x4)] [] M r M') : Ev X 126 4 [fx_f 56, .inl (x1), .inl (x2), .inl (x3), .inl (x4)] [] M r M' := by
  refine Ev.run 2 fd_e126 (i' := 6) (ls' := [fx_f 56, .inl (x1), .inl (x2), .inl (x3), .inl (x4)]) (st' := [.inl (24), .inl (x4)]) (M1 := M) rfl ?_
  refine Ev.icT fd_e126 rfl g (by decide) (decide_eq_true h) ?_
  exact k
theorem r126_4F {X : fx_Sc} {M M' : fx_M} {r : Option fx_V} {x1 x2 x3 x4 : Int} (g : (-2147483648 ≤ x4 ∧ x4 < 2147483648)) (h : x4 < 24) (k : Ev X 126 7 [fx_f 56, .inl (x1), .inl (x2), .inl (x3), .inl (x4)] [] M r M') : Ev X 126 4 [fx_f 56, .inl (x1), .inl (x2), .inl (x3), .inl (x4)] [] M r M' := by
  refine Ev.run 2 fd_e126 (i' := 6) (ls' := [fx_f 56, .inl (x1), .inl (x2), .inl (x3), .inl (x4)]) (st' := [.inl (24), .inl (x4)]) (M1 := M) rfl ?_
  refine Ev.icF fd_e126 rfl g (by decide) (decide_eq_false (Int.not_le.mpr h)) ?_
  exact k
theorem r126_7T {X : fx_Sc} {M M' : fx_M} {r : Option fx_V} {x1 x2 x3 x4 : Int} (g : (-2147483648 ≤ x3 ∧ x3 < 2147483648)) (h : x3 = 0) (k : Ev X 126 28 [fx_f 56, .inl (x1), .inl (x2), .inl (x3), .inl (x4)] [] M r M') : Ev X 126 7 [fx_f 56, .inl (x1), .inl (x2), .inl (x3), .inl (x4)] [] M r M' := by
  refine Ev.run 1 fd_e126 (i' := 8) (ls' := [fx_f 56, .inl (x1), .inl (x2), .inl (x3), .inl (x4)]) (st' := [.inl (x3)]) (M1 := M) rfl ?_
  refine Ev.ifT fd_e126 rfl g (decide_eq_true h) ?_
  exact k
theorem r126_7F {X : fx_Sc} {M M' : fx_M} {r : Option fx_V} {x1 x2 x3 x4 : Int} (g : (-2147483648 ≤ x3 ∧ x3 < 2147483648)) (h : x3 ≠ 0) (k : Ev X 126 9 [fx_f 56, .inl (x1), .inl (x2), .inl (x3), .inl (x4)] [] M r M') : Ev X 126 7 [fx_f 56, .inl (x1), .inl (x2), .inl (x3), .inl (x4)] [] M r M' := by
  refine Ev.run 1 fd_e126 (i' := 8) (ls' := [fx_f 56, .inl (x1), .inl (x2), .inl (x3), .inl (x4)]) (st' := [.inl (x3)]) (M1 := M) rfl ?_
  refine Ev.ifF fd_e126 rfl g (decide_eq_false h) ?_
  exact k
theorem r126_9 {X : fx_Sc} {M M' : fx_M} {r : Option fx_V} {x1 x2 x3 x4 z : Int} {M1 : fx_M} (hc : Ev X 118 0 [fx_f 56, .inl (((24 * x1) + x4))] [] M (some (.inl z)) M1) (k : Ev X 126 16 [fx_f 56, .inl (x1), .inl (x2), .inl (x3), .inl (x4)] [.inl (z)] M1 r M') : Ev X 126 9 [fx_f 56, .inl (x1), .inl (x2), .inl (x3), .inl (x4)] [] M r M' := by
  refine Ev.run 6 fd_e126 (i' := 15) (ls' := [fx_f 56, .inl (x1), .inl (x2), .inl (x3), .inl (x4)]) (st' := [.inl (((24 * x1) + x4)), fx_f 56]) (M1 := M) rfl ?_
  refine Ev.callV (vs := [fx_f 56, .inl (((24 * x1) + x4))]) (rest := []) (r1 := (some (.inl z))) fd_e126 rfl rfl rfl (Nat.le_of_ble_eq_true rfl) (Nat.le_of_ble_eq_true rfl) rfl hc ?_
  exact k
theorem r126_16T {X : fx_Sc} {M M' : fx_M} {r : Option fx_V} {x1 x2 x3 x4 s0 : Int} (g : (-2147483648 ≤ s0 ∧ s0 < 2147483648)) (h : s0 = 0) (k : Ev X 126 26 [fx_f 56, .inl (x1), .inl (x2), .inl (x3), .inl (x4)] [] M r M') : Ev X 126 16 [fx_f 56, .inl (x1), .inl (x2), .inl (x3), .inl (x4)] [.inl (s0)] M r M' := by
  refine Ev.ifT fd_e126 rfl g (decide_eq_true h) ?_
  exact k
theorem r126_16F {X : fx_Sc} {M M' : fx_M} {r : Option fx_V} {x1 x2 x3 x4 s0 : Int} (g : (-2147483648 ≤ s0 ∧ s0 < 2147483648)) (h : s0 ≠ 0) (k : Ev X 126 17 [fx_f 56, .inl (x1), .inl (x2), .inl (x3), .inl (x4)] [] M r M') : Ev X 126 16 [fx_f 56, .inl (x1), .inl (x2), .inl (x3), .inl (x4)] [.inl (s0)] M r M' := by
  refine Ev.ifF fd_e126 rfl g (decide_eq_false h) ?_
  exact k
theorem r126_17 {X : fx_Sc} {M M' : fx_M} {r : Option fx_V} {x1 x2 x3 x4 z : Int} {M1 : fx_M} (hc : Ev X 117 0 [.inl (((fx_rem x4 12) + x2)), .inl (0), .inl (11)] [] M (some (.inl z)) M1) (k : Ev X 126 25 [fx_f 56, .inl (x1), .inl (x2), .inl (x3), .inl (x4)] [.inl (z)] M1 r M') : Ev X 126 17 [fx_f 56, .inl (x1), .inl (x2), .inl (x3), .inl (x4)] [] M r M' := by
  refine Ev.run 2 fd_e126 (i' := 19) (ls' := [fx_f 56, .inl (x1), .inl (x2), .inl (x3), .inl (x4)]) (st' := [.inl (12), .inl (x4)]) (M1 := M) rfl ?_
  refine Ev.rem fd_e126 rfl (by decide) ?_
  refine Ev.run 4 fd_e126 (i' := 24) (ls' := [fx_f 56, .inl (x1), .inl (x2), .inl (x3), .inl (x4)]) (st' := [.inl (11), .inl (0), .inl (((fx_rem x4 12) + x2))]) (M1 := M) rfl ?_
  refine Ev.callS (vs := [.inl (((fx_rem x4 12) + x2)), .inl (0), .inl (11)]) (rest := []) (r1 := (some (.inl z))) fd_e126 rfl rfl rfl (Nat.le_of_ble_eq_true rfl) (Nat.le_of_ble_eq_true rfl) hc ?_
  exact k
theorem r126_25T {X : fx_Sc} {M M' : fx_M} {r : Option fx_V} {x1 x2 x3 x4 s0 : Int} (g : (-2147483648 ≤ s0 ∧ s0 < 2147483648)) (h : s0 = 0) (k : Ev X 126 28 [fx_f 56, .inl (x1), .inl (x2), .inl (x3), .inl (x4)] [] M r M') : Ev X 126 25 [fx_f 56, .inl (x1), .inl (x2), .inl (x3), .inl (x4)] [.inl (s0)] M r M' := by
  refine Ev.ifT fd_e126 rfl g (decide_eq_true h) ?_
  exact k
theorem r126_25F {X : fx_Sc} {M M' : fx_M} {r : Option fx_V} {x1 x2 x3 x4 s0 : Int} (g : (-2147483648 ≤ s0 ∧ s0 < 2147483648)) (h : s0 ≠ 0) (k : Ev X 126 26 [fx_f 56, .inl (x1), .inl (x2), .inl (x3), .inl (x4)] [] M r M') : Ev X 126 25 [fx_f 56, .inl (x1), .inl (x2), .inl (x3), .inl (x4)] [.inl (s0)] M r M' := by
  refine Ev.ifF fd_e126 rfl g (decide_eq_false h) ?_
  exact k
theorem r126_26 {X : fx_Sc} {M M' : fx_M} {r : Option fx_V} {x1 x2 x3 x4 : Int} (k : Ev X 126 4 [fx_f 56, .inl (x1), .inl (x2), .inl (1), .inl ((x4 + 1))] [] M r M') : Ev X 126 26 [fx_f 56, .inl (x1), .inl (x2), .inl (x3), .inl (x4)] [] M r M' := by
  refine Ev.run 5 fd_e126 (i' := 4) (ls' := [fx_f 56, .inl (x1), .inl (x2), .inl (1), .inl ((x4 + 1))]) (st' := []) (M1 := M) rfl ?_
  exact k
theorem r126_28 {X : fx_Sc} {M M' : fx_M} {r : Option fx_V} {x1 x2 x3 x4 : Int} (k : Ev X 126 4 [fx_f 56, .inl (x1), .inl (x2), .inl (0), .inl ((x4 + 1))] [] M r M') : Ev X 126 28 [fx_f 56, .inl (x1), .inl (x2), .inl (x3), .inl (x4)] [] M r M' := by
  refine Ev.run 4 fd_e126 (i' := 4) (ls' := [fx_f 56, .inl (x1), .inl (x2), .inl (0), .inl ((x4 + 1))]) (st' := []) (M1 := M) rfl ?_
  exact k
theorem r126_32 {X : fx_Sc} {M : fx_M} {x1 x2 x3 x4 : Int} (g : (x3 = 0 ∨ x3 = 1)) : Ev X 126 32 [fx_f 56, .inl (x1), .inl (x2), .inl (x3), .inl (x4)] [] M (some (.inl (x3))) M := by
  refine Ev.run 1 fd_e126 (i' := 33) (ls' := [fx_f 56, .inl (x1), .inl (x2), .inl (x3), .inl (x4)]) (st' := [.inl (x3)]) (M1 := M) rfl ?_
  exact Ev.ret2 fd_e126 rfl rfl g
-- 127: FoldedStripsModel.lays(IIZZ)V
theorem fd_e127 : fd_C 127 = fd_c127 := rfl
theorem r127_0 {X : fx_Sc} {M M' : fx_M} {r : Option fx_V} {x1 x2 x3 x4 : Int} (k : Ev X 127 2 [fx_f 56, .inl (x1), .inl (x2), .inl (x3), .inl (x4), .inl (0), fx_u] [] M r M') : Ev X 127 0 [fx_f 56, .inl (x1), .inl (x2), .inl (x3), .inl (x4), fx_u, fx_u] [] M r M' := by
  refine Ev.run 2 fd_e127 (i' := 2) (ls' := [fx_f 56, .inl (x1), .inl (x2), .inl (x3), .inl (x4), .inl (0), fx_u]) (st' := []) (M1 := M) rfl ?_
  exact k
theorem r127_2T {X : fx_Sc} {M M' : fx_M} {r : Option fx_V} {x1 x2 x3 x4 x5 : Int} (g : (-2147483648 ≤ x5 ∧ x5 < 2147483648)) (h : 24 ≤ x5) (k : Ev X 127 19 [fx_f 56, .inl (x1), .inl (x2), .inl (x3), .inl (x4), .inl (x5), fx_u] [] M r M') : Ev X 127 2 [fx_f 56, .inl (x1), .inl (x2), .inl (x3), .inl (x4), .inl (x5), fx_u] [] M r M' := by
  refine Ev.run 2 fd_e127 (i' := 4) (ls' := [fx_f 56, .inl (x1), .inl (x2), .inl (x3), .inl (x4), .inl (x5), fx_u]) (st' := [.inl (24), .inl (x5)]) (M1 := M) rfl ?_
  refine Ev.icT fd_e127 rfl g (by decide) (decide_eq_true h) ?_
  exact k
theorem r127_2F {X : fx_Sc} {M M' : fx_M} {r : Option fx_V} {x1 x2 x3 x4 x5 : Int} (g : (-2147483648 ≤ x5 ∧ x5 < 2147483648)) (h : x5 < 24) (k : Ev X 127 5 [fx_f 56, .inl (x1), .inl (x2), .inl (x3), .inl (x4), .inl (x5), fx_u] [] M r M') : Ev X 127 2 [fx_f 56, .inl (x1), .inl (x2), .inl (x3), .inl (x4), .inl (x5), fx_u] [] M r M' := by
  refine Ev.run 2 fd_e127 (i' := 4) (ls' := [fx_f 56, .inl (x1), .inl (x2), .inl (x3), .inl (x4), .inl (x5), fx_u]) (st' := [.inl (24), .inl (x5)]) (M1 := M) rfl ?_
  refine Ev.icF fd_e127 rfl g (by decide) (decide_eq_false (Int.not_le.mpr h)) ?_
  exact k
theorem r127_5 {X : fx_Sc} {M M' : fx_M} {r : Option fx_V} {x1 x2 x3 x4 x5 : Int} (g : (0 ≤ ((24 * x1) + x5) ∧ ((24 * x1) + x5) < ((150 : Nat) : Int)) ∧ (0 ≤ x5 ∧ x5 < ((150 : Nat) : Int))) (k : Ev X 127 2 [fx_f 56, .inl (x1), .inl (x2), .inl (x3), .inl (x4), .inl ((x5 + 1)), fx_u] [] (fx_set M 58 (fx_up (M 58) (x5).toNat (M 57 (((24 * x1) + x5)).toNat))) r M') : Ev X 127 5 [fx_f 56, .inl (x1), .inl (x2), .inl (x3), .inl (x4), .inl (x5), fx_u] [] M r M' := by
  refine Ev.run 10 fd_e127 (i' := 15) (ls' := [fx_f 56, .inl (x1), .inl (x2), .inl (x3), .inl (x4), .inl (x5), fx_u]) (st' := [.inl (((24 * x1) + x5)), fx_f 57, .inl (x5), fx_f 58]) (M1 := M) rfl ?_
  refine Ev.iald fd_e127 rfl rfl (by decide) g.1 ?_
  refine Ev.iast fd_e127 rfl rfl (by decide) g.2 ?_
  refine Ev.run 2 fd_e127 (i' := 2) (ls' := [fx_f 56, .inl (x1), .inl (x2), .inl (x3), .inl (x4), .inl ((x5 + 1)), fx_u]) (st' := []) (M1 := (fx_set M 58 (fx_up (M 58) (x5).toNat (M 57 (((24 * x1) + x5)).toNat)))) rfl ?_
  exact k
theorem r127_19 {X : fx_Sc} {M M' : fx_M} {r : Option fx_V} {x1 x2 x3 x4 x5 : Int} {M1 : fx_M} (hc : Ev X 124 0 [fx_f 56, .inl (x1), fx_u] [] M none M1) (k : Ev X 127 22 [fx_f 56, .inl (x1), .inl (x2), .inl (x3), .inl (x4), .inl (x5), fx_u] [] M1 r M') : Ev X 127 19 [fx_f 56, .inl (x1), .inl (x2), .inl (x3), .inl (x4), .inl (x5), fx_u] [] M r M' := by
  refine Ev.run 2 fd_e127 (i' := 21) (ls' := [fx_f 56, .inl (x1), .inl (x2), .inl (x3), .inl (x4), .inl (x5), fx_u]) (st' := [.inl (x1), fx_f 56]) (M1 := M) rfl ?_
  refine Ev.callV (vs := [fx_f 56, .inl (x1)]) (rest := []) (r1 := none) fd_e127 rfl rfl rfl (Nat.le_of_ble_eq_true rfl) (Nat.le_of_ble_eq_true rfl) rfl hc ?_
  exact k
theorem r127_22 {X : fx_Sc} {M M' : fx_M} {r : Option fx_V} {x1 x2 x3 x4 x5 : Int} (k : Ev X 127 24 [fx_f 56, .inl (x1), .inl (x2), .inl (x3), .inl (x4), .inl (0), fx_u] [] M r M') : Ev X 127 22 [fx_f 56, .inl (x1), .inl (x2), .inl (x3), .inl (x4), .inl (x5), fx_u] [] M r M' := by
  refine Ev.run 2 fd_e127 (i' := 24) (ls' := [fx_f 56, .inl (x1), .inl (x2), .inl (x3), .inl (x4), .inl (0), fx_u]) (st' := []) (M1 := M) rfl ?_
  exact k
theorem r127_24T {X : fx_Sc} {M M' : fx_M} {r : Option fx_V} {x1 x2 x3 x4 x5 : Int} {v6 : fx_V} (g : (-2147483648 ≤ x5 ∧ x5 < 2147483648)) (h : 24 ≤ x5) (k : Ev X 127 60 [fx_f 56, .inl (x1), .inl (x2), .inl (x3), .inl (x4), .inl (x5), v6] [] M r M') : Ev X 127 24 [fx_f 56, .inl (x1), .inl (x2), .inl (x3), .inl (x4), .inl (x5), v6] [] M r M' := by
  refine Ev.run 2 fd_e127 (i' := 26) (ls' := [fx_f 56, .inl (x1), .inl (x2), .inl (x3), .inl (x4), .inl (x5), v6]) (st' := [.inl (24), .inl (x5)]) (M1 := M) rfl ?_
  refine Ev.icT fd_e127 rfl g (by decide) (decide_eq_true h) ?_
  exact k
theorem r127_24F {X : fx_Sc} {M M' : fx_M} {r : Option fx_V} {x1 x2 x3 x4 x5 : Int} {v6 : fx_V} (g : (-2147483648 ≤ x5 ∧ x5 < 2147483648)) (h : x5 < 24) (k : Ev X 127 27 [fx_f 56, .inl (x1), .inl (x2), .inl (x3), .inl (x4), .inl (x5), v6] [] M r M') : Ev X 127 24 [fx_f 56, .inl (x1), .inl (x2), .inl (x3), .inl (x4), .inl (x5), v6] [] M r M' := by
  refine Ev.run 2 fd_e127 (i' := 26) (ls' := [fx_f 56, .inl (x1), .inl (x2), .inl (x3), .inl (x4), .inl (x5), v6]) (st' := [.inl (24), .inl (x5)]) (M1 := M) rfl ?_
  refine Ev.icF fd_e127 rfl g (by decide) (decide_eq_false (Int.not_le.mpr h)) ?_
  exact k
theorem r127_27T {X : fx_Sc} {M M' : fx_M} {r : Option fx_V} {x1 x2 x3 x4 x5 : Int} {v6 : fx_V} (g : (0 ≤ x5 ∧ x5 < ((150 : Nat) : Int)) ∧ (-2147483648 ≤ (M 58 (x5).toNat) ∧ (M 58 (x5).toNat) < 2147483648)) (h : (M 58 (x5).toNat) ≤ 0) (k : Ev X 127 58 [fx_f 56, .inl (x1), .inl (x2), .inl (x3), .inl (x4), .inl (x5), v6] [] M r M') : Ev X 127 27 [fx_f 56, .inl (x1), .inl (x2), .inl (x3), .inl (x4), .inl (x5), v6] [] M r M' := by
  refine Ev.run 3 fd_e127 (i' := 30) (ls' := [fx_f 56, .inl (x1), .inl (x2), .inl (x3), .inl (x4), .inl (x5), v6]) (st' := [.inl (x5), fx_f 58]) (M1 := M) rfl ?_
  refine Ev.iald fd_e127 rfl rfl (by decide) g.1 ?_
  refine Ev.ifT fd_e127 rfl g.2 (decide_eq_true h) ?_
  exact k
theorem r127_27F {X : fx_Sc} {M M' : fx_M} {r : Option fx_V} {x1 x2 x3 x4 x5 : Int} {v6 : fx_V} (g : (0 ≤ x5 ∧ x5 < ((150 : Nat) : Int)) ∧ (-2147483648 ≤ (M 58 (x5).toNat) ∧ (M 58 (x5).toNat) < 2147483648)) (h : 0 < (M 58 (x5).toNat)) (k : Ev X 127 32 [fx_f 56, .inl (x1), .inl (x2), .inl (x3), .inl (x4), .inl (x5), v6] [] M r M') : Ev X 127 27 [fx_f 56, .inl (x1), .inl (x2), .inl (x3), .inl (x4), .inl (x5), v6] [] M r M' := by
  refine Ev.run 3 fd_e127 (i' := 30) (ls' := [fx_f 56, .inl (x1), .inl (x2), .inl (x3), .inl (x4), .inl (x5), v6]) (st' := [.inl (x5), fx_f 58]) (M1 := M) rfl ?_
  refine Ev.iald fd_e127 rfl rfl (by decide) g.1 ?_
  refine Ev.ifF fd_e127 rfl g.2 (decide_eq_false (Int.not_le.mpr h)) ?_
  exact k
theorem r127_32 {X : fx_Sc} {M M' : fx_M} {r : Option fx_V} {x1 x2 x3 x4 x5 z : Int} {v6 : fx_V} {M1 : fx_M} (g : (0 ≤ x5 ∧ x5 < ((150 : Nat) : Int))) (hc : Ev X 128 0 [.inl (((M 58 (x5).toNat) - 1)), .inl (x2), .inl (x3), .inl (x4), fx_u, fx_u] [] M (some (.inl z)) M1) (k : Ev X 127 42 [fx_f 56, .inl (x1), .inl (x2), .inl (x3), .inl (x4), .inl (x5), v6] [.inl (z)] M1 r M') : Ev X 127 32 [fx_f 56, .inl (x1), .inl (x2), .inl (x3), .inl (x4), .inl (x5), v6] [] M r M' := by
  refine Ev.run 3 fd_e127 (i' := 35) (ls' := [fx_f 56, .inl (x1), .inl (x2), .inl (x3), .inl (x4), .inl (x5), v6]) (st' := [.inl (x5), fx_f 58]) (M1 := M) rfl ?_
  refine Ev.iald fd_e127 rfl rfl (by decide) g ?_
  refine Ev.run 5 fd_e127 (i' := 41) (ls' := [fx_f 56, .inl (x1), .inl (x2), .inl (x3), .inl (x4), .inl (x5), v6]) (st' := [.inl (x4), .inl (x3), .inl (x2), .inl (((M 58 (x5).toNat) - 1))]) (M1 := M) rfl ?_
  refine Ev.callS (vs := [.inl (((M 58 (x5).toNat) - 1)), .inl (x2), .inl (x3), .inl (x4)]) (rest := []) (r1 := (some (.inl z))) fd_e127 rfl rfl rfl (Nat.le_of_ble_eq_true rfl) (Nat.le_of_ble_eq_true rfl) hc ?_
  exact k
theorem r127_42 {X : fx_Sc} {M M' : fx_M} {r : Option fx_V} {x1 x2 x3 x4 x5 s0 z : Int} {v6 : fx_V} {M1 : fx_M} (hc : Ev X 128 0 [.inl (x5), .inl (x2), .inl (x3), .inl (x4), fx_u, fx_u] [] M (some (.inl z)) M1) (k : Ev X 127 53 [fx_f 56, .inl (x1), .inl (x2), .inl (x3), .inl (x4), .inl (x5), .inl (s0)] [.inl (z), .inl ((24 * x1)), fx_f 57] M1 r M') : Ev X 127 42 [fx_f 56, .inl (x1), .inl (x2), .inl (x3), .inl (x4), .inl (x5), v6] [.inl (s0)] M r M' := by
  refine Ev.run 10 fd_e127 (i' := 52) (ls' := [fx_f 56, .inl (x1), .inl (x2), .inl (x3), .inl (x4), .inl (x5), .inl (s0)]) (st' := [.inl (x4), .inl (x3), .inl (x2), .inl (x5), .inl ((24 * x1)), fx_f 57]) (M1 := M) rfl ?_
  refine Ev.callS (vs := [.inl (x5), .inl (x2), .inl (x3), .inl (x4)]) (rest := [.inl ((24 * x1)), fx_f 57]) (r1 := (some (.inl z))) fd_e127 rfl rfl rfl (Nat.le_of_ble_eq_true rfl) (Nat.le_of_ble_eq_true rfl) hc ?_
  exact k
theorem r127_53 {X : fx_Sc} {M M' : fx_M} {r : Option fx_V} {x1 x2 x3 x4 x5 x6 s1 s2 : Int} (g : (0 ≤ (s1 + s2) ∧ (s1 + s2) < ((150 : Nat) : Int))) (k : Ev X 127 24 [fx_f 56, .inl (x1), .inl (x2), .inl (x3), .inl (x4), .inl ((x5 + 1)), .inl (x6)] [] (fx_set M 57 (fx_up (M 57) ((s1 + s2)).toNat (x6 + 1))) r M') : Ev X 127 53 [fx_f 56, .inl (x1), .inl (x2), .inl (x3), .inl (x4), .inl (x5), .inl (x6)] [.inl (s2), .inl (s1), fx_f 57] M r M' := by
  refine Ev.run 4 fd_e127 (i' := 57) (ls' := [fx_f 56, .inl (x1), .inl (x2), .inl (x3), .inl (x4), .inl (x5), .inl (x6)]) (st' := [.inl ((x6 + 1)), .inl ((s1 + s2)), fx_f 57]) (M1 := M) rfl ?_
  refine Ev.iast fd_e127 rfl rfl (by decide) g ?_
  refine Ev.run 2 fd_e127 (i' := 24) (ls' := [fx_f 56, .inl (x1), .inl (x2), .inl (x3), .inl (x4), .inl ((x5 + 1)), .inl (x6)]) (st' := []) (M1 := (fx_set M 57 (fx_up (M 57) ((s1 + s2)).toNat (x6 + 1)))) rfl ?_
  exact k
theorem r127_58 {X : fx_Sc} {M M' : fx_M} {r : Option fx_V} {x1 x2 x3 x4 x5 : Int} {v6 : fx_V} (k : Ev X 127 24 [fx_f 56, .inl (x1), .inl (x2), .inl (x3), .inl (x4), .inl ((x5 + 1)), v6] [] M r M') : Ev X 127 58 [fx_f 56, .inl (x1), .inl (x2), .inl (x3), .inl (x4), .inl (x5), v6] [] M r M' := by
  refine Ev.run 2 fd_e127 (i' := 24) (ls' := [fx_f 56, .inl (x1), .inl (x2), .inl (x3), .inl (x4), .inl ((x5 + 1)), v6]) (st' := []) (M1 := M) rfl ?_
  exact k
theorem r127_60 {X : fx_Sc} {M : fx_M} {x1 x2 x3 x4 x5 : Int} {v6 : fx_V} : Ev X 127 60 [fx_f 56, .inl (x1), .inl (x2), .inl (x3), .inl (x4), .inl (x5), v6] [] M none M := by
  exact Ev.retv fd_e127 rfl rfl
-- 128: FoldedStripsModel.moved(IIZZ)I
theorem fd_e128 : fd_C 128 = fd_c128 := rfl
theorem r128_0T {X : fx_Sc} {M M' : fx_M} {r : Option fx_V} {x0 x1 x2 x3 : Int} (g : (-2147483648 ≤ (fx_div x0 12) ∧ (fx_div x0 12) < 2147483648)) (h : (fx_div x0 12) ≠ 1) (k : Ev X 128 13 [.inl (x0), .inl (x1), .inl (x2), .inl (x3), .inl (((fx_rem x0 12) + x1)), fx_u] [] M r M') : Ev X 128 0 [.inl (x0), .inl (x1), .inl (x2), .inl (x3), fx_u, fx_u] [] M r M' := by
  refine Ev.run 2 fd_e128 (i' := 2) (ls' := [.inl (x0), .inl (x1), .inl (x2), .inl (x3), fx_u, fx_u]) (st' := [.inl (12), .inl (x0)]) (M1 := M) rfl ?_
  refine Ev.rem fd_e128 rfl (by decide) ?_
  refine Ev.run 5 fd_e128 (i' := 8) (ls' := [.inl (x0), .inl (x1), .inl (x2), .inl (x3), .inl (((fx_rem x0 12) + x1)), fx_u]) (st' := [.inl (12), .inl (x0)]) (M1 := M) rfl ?_
  refine Ev.div fd_e128 rfl (by decide) ?_
  refine Ev.run 1 fd_e128 (i' := 10) (ls' := [.inl (x0), .inl (x1), .inl (x2), .inl (x3), .inl (((fx_rem x0 12) + x1)), fx_u]) (st' := [.inl (1), .inl ((fx_div x0 12))]) (M1 := M) rfl ?_
  refine Ev.icT fd_e128 rfl g (by decide) (decide_eq_true h) ?_
  exact k
theorem r128_0F {X : fx_Sc} {M M' : fx_M} {r : Option fx_V} {x0 x1 x2 x3 : Int} (g : (-2147483648 ≤ (fx_div x0 12) ∧ (fx_div x0 12) < 2147483648)) (h : (fx_div x0 12) = 1) (k : Ev X 128 11 [.inl (x0), .inl (x1), .inl (x2), .inl (x3), .inl (((fx_rem x0 12) + x1)), fx_u] [] M r M') : Ev X 128 0 [.inl (x0), .inl (x1), .inl (x2), .inl (x3), fx_u, fx_u] [] M r M' := by
  refine Ev.run 2 fd_e128 (i' := 2) (ls' := [.inl (x0), .inl (x1), .inl (x2), .inl (x3), fx_u, fx_u]) (st' := [.inl (12), .inl (x0)]) (M1 := M) rfl ?_
  refine Ev.rem fd_e128 rfl (by decide) ?_
  refine Ev.run 5 fd_e128 (i' := 8) (ls' := [.inl (x0), .inl (x1), .inl (x2), .inl (x3), .inl (((fx_rem x0 12) + x1)), fx_u]) (st' := [.inl (12), .inl (x0)]) (M1 := M) rfl ?_
  refine Ev.div fd_e128 rfl (by decide) ?_
  refine Ev.run 1 fd_e128 (i' := 10) (ls' := [.inl (x0), .inl (x1), .inl (x2), .inl (x3), .inl (((fx_rem x0 12) + x1)), fx_u]) (st' := [.inl (1), .inl ((fx_div x0 12))]) (M1 := M) rfl ?_
  refine Ev.icF fd_e128 rfl g (by decide) (decide_eq_false (not_not_intro h)) ?_
  exact k
theorem r128_11T {X : fx_Sc} {M M' : fx_M} {r : Option fx_V} {x0 x1 x2 x3 x4 : Int} (g : (-2147483648 ≤ x3 ∧ x3 < 2147483648)) (h : 1 ≠ x3) (k : Ev X 128 18 [.inl (x0), .inl (x1), .inl (x2), .inl (x3), .inl (x4), fx_u] [] M r M') : Ev X 128 11 [.inl (x0), .inl (x1), .inl (x2), .inl (x3), .inl (x4), fx_u] [] M r M' := by
  refine Ev.run 3 fd_e128 (i' := 15) (ls' := [.inl (x0), .inl (x1), .inl (x2), .inl (x3), .inl (x4), fx_u]) (st' := [.inl (x3), .inl (1)]) (M1 := M) rfl ?_
  refine Ev.icT fd_e128 rfl (by decide) g (decide_eq_true h) ?_
  exact k
theorem r128_11F {X : fx_Sc} {M M' : fx_M} {r : Option fx_V} {x0 x1 x2 x3 x4 : Int} (g : (-2147483648 ≤ x3 ∧ x3 < 2147483648)) (h : 1 = x3) (k : Ev X 128 16 [.inl (x0), .inl (x1), .inl (x2), .inl (x3), .inl (x4), fx_u] [] M r M') : Ev X 128 11 [.inl (x0), .inl (x1), .inl (x2), .inl (x3), .inl (x4), fx_u] [] M r M' := by
  refine Ev.run 3 fd_e128 (i' := 15) (ls' := [.inl (x0), .inl (x1), .inl (x2), .inl (x3), .inl (x4), fx_u]) (st' := [.inl (x3), .inl (1)]) (M1 := M) rfl ?_
  refine Ev.icF fd_e128 rfl (by decide) g (decide_eq_false (not_not_intro h)) ?_
  exact k
theorem r128_13T {X : fx_Sc} {M M' : fx_M} {r : Option fx_V} {x0 x1 x2 x3 x4 : Int} (g : (-2147483648 ≤ x3 ∧ x3 < 2147483648)) (h : 0 ≠ x3) (k : Ev X 128 18 [.inl (x0), .inl (x1), .inl (x2), .inl (x3), .inl (x4), fx_u] [] M r M') : Ev X 128 13 [.inl (x0), .inl (x1), .inl (x2), .inl (x3), .inl (x4), fx_u] [] M r M' := by
  refine Ev.run 2 fd_e128 (i' := 15) (ls' := [.inl (x0), .inl (x1), .inl (x2), .inl (x3), .inl (x4), fx_u]) (st' := [.inl (x3), .inl (0)]) (M1 := M) rfl ?_
  refine Ev.icT fd_e128 rfl (by decide) g (decide_eq_true h) ?_
  exact k
theorem r128_13F {X : fx_Sc} {M M' : fx_M} {r : Option fx_V} {x0 x1 x2 x3 x4 : Int} (g : (-2147483648 ≤ x3 ∧ x3 < 2147483648)) (h : 0 = x3) (k : Ev X 128 16 [.inl (x0), .inl (x1), .inl (x2), .inl (x3), .inl (x4), fx_u] [] M r M') : Ev X 128 13 [.inl (x0), .inl (x1), .inl (x2), .inl (x3), .inl (x4), fx_u] [] M r M' := by
  refine Ev.run 2 fd_e128 (i' := 15) (ls' := [.inl (x0), .inl (x1), .inl (x2), .inl (x3), .inl (x4), fx_u]) (st' := [.inl (x3), .inl (0)]) (M1 := M) rfl ?_
  refine Ev.icF fd_e128 rfl (by decide) g (decide_eq_false (not_not_intro h)) ?_
  exact k
theorem r128_16T {X : fx_Sc} {M M' : fx_M} {r : Option fx_V} {x0 x1 x2 x3 x4 : Int} (g : (-2147483648 ≤ x2 ∧ x2 < 2147483648)) (h : x2 = 0) (k : Ev X 128 27 [.inl (x0), .inl (x1), .inl (x2), .inl (x3), .inl (x4), .inl (0)] [.inl (0)] M r M') : Ev X 128 16 [.inl (x0), .inl (x1), .inl (x2), .inl (x3), .inl (x4), fx_u] [] M r M' := by
  refine Ev.run 5 fd_e128 (i' := 22) (ls' := [.inl (x0), .inl (x1), .inl (x2), .inl (x3), .inl (x4), .inl (0)]) (st' := [.inl (x2), .inl (0)]) (M1 := M) rfl ?_
  refine Ev.ifT fd_e128 rfl g (decide_eq_true h) ?_
  exact k
theorem r128_16F {X : fx_Sc} {M M' : fx_M} {r : Option fx_V} {x0 x1 x2 x3 x4 : Int} (g : (-2147483648 ≤ x2 ∧ x2 < 2147483648)) (h : x2 ≠ 0) (k : Ev X 128 23 [.inl (x0), .inl (x1), .inl (x2), .inl (x3), .inl (x4), .inl (0)] [.inl (0)] M r M') : Ev X 128 16 [.inl (x0), .inl (x1), .inl (x2), .inl (x3), .inl (x4), fx_u] [] M r M' := by
  refine Ev.run 5 fd_e128 (i' := 22) (ls' := [.inl (x0), .inl (x1), .inl (x2), .inl (x3), .inl (x4), .inl (0)]) (st' := [.inl (x2), .inl (0)]) (M1 := M) rfl ?_
  refine Ev.ifF fd_e128 rfl g (decide_eq_false h) ?_
  exact k
theorem r128_18T {X : fx_Sc} {M M' : fx_M} {r : Option fx_V} {x0 x1 x2 x3 x4 : Int} (g : (-2147483648 ≤ x2 ∧ x2 < 2147483648)) (h : x2 = 0) (k : Ev X 128 27 [.inl (x0), .inl (x1), .inl (x2), .inl (x3), .inl (x4), .inl (12)] [.inl (12)] M r M') : Ev X 128 18 [.inl (x0), .inl (x1), .inl (x2), .inl (x3), .inl (x4), fx_u] [] M r M' := by
  refine Ev.run 4 fd_e128 (i' := 22) (ls' := [.inl (x0), .inl (x1), .inl (x2), .inl (x3), .inl (x4), .inl (12)]) (st' := [.inl (x2), .inl (12)]) (M1 := M) rfl ?_
  refine Ev.ifT fd_e128 rfl g (decide_eq_true h) ?_
  exact k
theorem r128_18F {X : fx_Sc} {M M' : fx_M} {r : Option fx_V} {x0 x1 x2 x3 x4 : Int} (g : (-2147483648 ≤ x2 ∧ x2 < 2147483648)) (h : x2 ≠ 0) (k : Ev X 128 23 [.inl (x0), .inl (x1), .inl (x2), .inl (x3), .inl (x4), .inl (12)] [.inl (12)] M r M') : Ev X 128 18 [.inl (x0), .inl (x1), .inl (x2), .inl (x3), .inl (x4), fx_u] [] M r M' := by
  refine Ev.run 4 fd_e128 (i' := 22) (ls' := [.inl (x0), .inl (x1), .inl (x2), .inl (x3), .inl (x4), .inl (12)]) (st' := [.inl (x2), .inl (12)]) (M1 := M) rfl ?_
  refine Ev.ifF fd_e128 rfl g (decide_eq_false h) ?_
  exact k
theorem r128_23 {X : fx_Sc} {M : fx_M} {x0 x1 x2 x3 x4 x5 s0 : Int} : Ev X 128 23 [.inl (x0), .inl (x1), .inl (x2), .inl (x3), .inl (x4), .inl (x5)] [.inl (s0)] M (some (.inl ((s0 + (11 - x4))))) M := by
  refine Ev.run 5 fd_e128 (i' := 29) (ls' := [.inl (x0), .inl (x1), .inl (x2), .inl (x3), .inl (x4), .inl (x5)]) (st' := [.inl ((s0 + (11 - x4)))]) (M1 := M) rfl ?_
  exact Ev.ret1 fd_e128 rfl rfl
theorem r128_27 {X : fx_Sc} {M : fx_M} {x0 x1 x2 x3 x4 x5 s0 : Int} : Ev X 128 27 [.inl (x0), .inl (x1), .inl (x2), .inl (x3), .inl (x4), .inl (x5)] [.inl (s0)] M (some (.inl ((s0 + x4)))) M := by
  refine Ev.run 2 fd_e128 (i' := 29) (ls' := [.inl (x0), .inl (x1), .inl (x2), .inl (x3), .inl (x4), .inl (x5)]) (st' := [.inl ((s0 + x4))]) (M1 := M) rfl ?_
  exact Ev.ret1 fd_e128 rfl rfl
-- 129: FoldedStripsModel.loose()I
theorem fd_e129 : fd_C 129 = fd_c129 := rfl
theorem r129_0 {X : fx_Sc} {M M' : fx_M} {r : Option fx_V} {z : Int} {M1 : fx_M} (hc : Ev X 130 0 [fx_f 56, .inl (0), .inl (5), .inl (2), fx_u, fx_u] [] M (some (.inl z)) M1) (k : Ev X 129 5 [fx_f 56] [.inl (z)] M1 r M') : Ev X 129 0 [fx_f 56] [] M r M' := by
  refine Ev.run 4 fd_e129 (i' := 4) (ls' := [fx_f 56]) (st' := [.inl (2), .inl (5), .inl (0), fx_f 56]) (M1 := M) rfl ?_
  refine Ev.callV (vs := [fx_f 56, .inl (0), .inl (5), .inl (2)]) (rest := []) (r1 := (some (.inl z))) fd_e129 rfl rfl rfl (Nat.le_of_ble_eq_true rfl) (Nat.le_of_ble_eq_true rfl) rfl hc ?_
  exact k
theorem r129_5 {X : fx_Sc} {M : fx_M} {s0 : Int} : Ev X 129 5 [fx_f 56] [.inl (s0)] M (some (.inl (s0))) M := by
  exact Ev.ret1 fd_e129 rfl rfl
-- 130: FoldedStripsModel.ends(III)I
theorem fd_e130 : fd_C 130 = fd_c130 := rfl
theorem r130_0 {X : fx_Sc} {M M' : fx_M} {r : Option fx_V} {x1 x2 x3 : Int} (k : Ev X 130 6 [fx_f 56, .inl (x1), .inl (x2), .inl (x3), .inl (0), .inl ((24 * x1))] [] M r M') : Ev X 130 0 [fx_f 56, .inl (x1), .inl (x2), .inl (x3), fx_u, fx_u] [] M r M' := by
  refine Ev.run 6 fd_e130 (i' := 6) (ls' := [fx_f 56, .inl (x1), .inl (x2), .inl (x3), .inl (0), .inl ((24 * x1))]) (st' := []) (M1 := M) rfl ?_
  exact k
theorem r130_6T {X : fx_Sc} {M M' : fx_M} {r : Option fx_V} {x1 x2 x3 x4 x5 : Int} (g : (-2147483648 ≤ x5 ∧ x5 < 2147483648) ∧ (-2147483648 ≤ ((24 * x2) + 24) ∧ ((24 * x2) + 24) < 2147483648)) (h : ((24 * x2) + 24) ≤ x5) (k : Ev X 130 26 [fx_f 56, .inl (x1), .inl (x2), .inl (x3), .inl (x4), .inl (x5)] [] M r M') : Ev X 130 6 [fx_f 56, .inl (x1), .inl (x2), .inl (x3), .inl (x4), .inl (x5)] [] M r M' := by
  refine Ev.run 6 fd_e130 (i' := 12) (ls' := [fx_f 56, .inl (x1), .inl (x2), .inl (x3), .inl (x4), .inl (x5)]) (st' := [.inl (((24 * x2) + 24)), .inl (x5)]) (M1 := M) rfl ?_
  refine Ev.icT fd_e130 rfl g.1 g.2 (decide_eq_true h) ?_
  exact k
theorem r130_6F {X : fx_Sc} {M M' : fx_M} {r : Option fx_V} {x1 x2 x3 x4 x5 : Int} (g : (-2147483648 ≤ x5 ∧ x5 < 2147483648) ∧ (-2147483648 ≤ ((24 * x2) + 24) ∧ ((24 * x2) + 24) < 2147483648)) (h : x5 < ((24 * x2) + 24)) (k : Ev X 130 13 [fx_f 56, .inl (x1), .inl (x2), .inl (x3), .inl (x4), .inl (x5)] [] M r M') : Ev X 130 6 [fx_f 56, .inl (x1), .inl (x2), .inl (x3), .inl (x4), .inl (x5)] [] M r M' := by
  refine Ev.run 6 fd_e130 (i' := 12) (ls' := [fx_f 56, .inl (x1), .inl (x2), .inl (x3), .inl (x4), .inl (x5)]) (st' := [.inl (((24 * x2) + 24)), .inl (x5)]) (M1 := M) rfl ?_
  refine Ev.icF fd_e130 rfl g.1 g.2 (decide_eq_false (Int.not_le.mpr h)) ?_
  exact k
theorem r130_13 {X : fx_Sc} {M M' : fx_M} {r : Option fx_V} {x1 x2 x3 x4 x5 z : Int} {M1 : fx_M} (hc : Ev X 131 0 [fx_f 56, .inl (x5), fx_u] [] M (some (.inl z)) M1) (k : Ev X 130 17 [fx_f 56, .inl (x1), .inl (x2), .inl (x3), .inl (x4), .inl (x5)] [.inl (z), .inl (x4)] M1 r M') : Ev X 130 13 [fx_f 56, .inl (x1), .inl (x2), .inl (x3), .inl (x4), .inl (x5)] [] M r M' := by
  refine Ev.run 3 fd_e130 (i' := 16) (ls' := [fx_f 56, .inl (x1), .inl (x2), .inl (x3), .inl (x4), .inl (x5)]) (st' := [.inl (x5), fx_f 56, .inl (x4)]) (M1 := M) rfl ?_
  refine Ev.callV (vs := [fx_f 56, .inl (x5)]) (rest := [.inl (x4)]) (r1 := (some (.inl z))) fd_e130 rfl rfl rfl (Nat.le_of_ble_eq_true rfl) (Nat.le_of_ble_eq_true rfl) rfl hc ?_
  exact k
theorem r130_17T {X : fx_Sc} {M M' : fx_M} {r : Option fx_V} {x1 x2 x3 x4 x5 s0 s1 : Int} (g : (-2147483648 ≤ s1 ∧ s1 < 2147483648) ∧ (-2147483648 ≤ x3 ∧ x3 < 2147483648)) (h : s1 ≠ x3) (k : Ev X 130 21 [fx_f 56, .inl (x1), .inl (x2), .inl (x3), .inl (x4), .inl (x5)] [.inl (s0)] M r M') : Ev X 130 17 [fx_f 56, .inl (x1), .inl (x2), .inl (x3), .inl (x4), .inl (x5)] [.inl (s1), .inl (s0)] M r M' := by
  refine Ev.run 1 fd_e130 (i' := 18) (ls' := [fx_f 56, .inl (x1), .inl (x2), .inl (x3), .inl (x4), .inl (x5)]) (st' := [.inl (x3), .inl (s1), .inl (s0)]) (M1 := M) rfl ?_
  refine Ev.icT fd_e130 rfl g.1 g.2 (decide_eq_true h) ?_
  exact k
theorem r130_17F {X : fx_Sc} {M M' : fx_M} {r : Option fx_V} {x1 x2 x3 x4 x5 s0 s1 : Int} (g : (-2147483648 ≤ s1 ∧ s1 < 2147483648) ∧ (-2147483648 ≤ x3 ∧ x3 < 2147483648)) (h : s1 = x3) (k : Ev X 130 19 [fx_f 56, .inl (x1), .inl (x2), .inl (x3), .inl (x4), .inl (x5)] [.inl (s0)] M r M') : Ev X 130 17 [fx_f 56, .inl (x1), .inl (x2), .inl (x3), .inl (x4), .inl (x5)] [.inl (s1), .inl (s0)] M r M' := by
  refine Ev.run 1 fd_e130 (i' := 18) (ls' := [fx_f 56, .inl (x1), .inl (x2), .inl (x3), .inl (x4), .inl (x5)]) (st' := [.inl (x3), .inl (s1), .inl (s0)]) (M1 := M) rfl ?_
  refine Ev.icF fd_e130 rfl g.1 g.2 (decide_eq_false (not_not_intro h)) ?_
  exact k
theorem r130_19 {X : fx_Sc} {M M' : fx_M} {r : Option fx_V} {x1 x2 x3 x4 x5 s0 : Int} (k : Ev X 130 6 [fx_f 56, .inl (x1), .inl (x2), .inl (x3), .inl ((s0 + 1)), .inl ((x5 + 1))] [] M r M') : Ev X 130 19 [fx_f 56, .inl (x1), .inl (x2), .inl (x3), .inl (x4), .inl (x5)] [.inl (s0)] M r M' := by
  refine Ev.run 6 fd_e130 (i' := 6) (ls' := [fx_f 56, .inl (x1), .inl (x2), .inl (x3), .inl ((s0 + 1)), .inl ((x5 + 1))]) (st' := []) (M1 := M) rfl ?_
  exact k
theorem r130_21 {X : fx_Sc} {M M' : fx_M} {r : Option fx_V} {x1 x2 x3 x4 x5 s0 : Int} (k : Ev X 130 6 [fx_f 56, .inl (x1), .inl (x2), .inl (x3), .inl ((s0 + 0)), .inl ((x5 + 1))] [] M r M') : Ev X 130 21 [fx_f 56, .inl (x1), .inl (x2), .inl (x3), .inl (x4), .inl (x5)] [.inl (s0)] M r M' := by
  refine Ev.run 5 fd_e130 (i' := 6) (ls' := [fx_f 56, .inl (x1), .inl (x2), .inl (x3), .inl ((s0 + 0)), .inl ((x5 + 1))]) (st' := []) (M1 := M) rfl ?_
  exact k
theorem r130_26 {X : fx_Sc} {M : fx_M} {x1 x2 x3 x4 x5 : Int} : Ev X 130 26 [fx_f 56, .inl (x1), .inl (x2), .inl (x3), .inl (x4), .inl (x5)] [] M (some (.inl (x4))) M := by
  refine Ev.run 1 fd_e130 (i' := 27) (ls' := [fx_f 56, .inl (x1), .inl (x2), .inl (x3), .inl (x4), .inl (x5)]) (st' := [.inl (x4)]) (M1 := M) rfl ?_
  exact Ev.ret1 fd_e130 rfl rfl
-- 131: FoldedStripsModel.how(I)I
theorem fd_e131 : fd_C 131 = fd_c131 := rfl
theorem r131_0 {X : fx_Sc} {M M' : fx_M} {r : Option fx_V} {x1 z : Int} {M1 : fx_M} (hc : Ev X 132 0 [.inl (x1), fx_u] [] M (some (.inl z)) M1) (k : Ev X 131 2 [fx_f 56, .inl (x1), fx_u] [.inl (z)] M1 r M') : Ev X 131 0 [fx_f 56, .inl (x1), fx_u] [] M r M' := by
  refine Ev.run 1 fd_e131 (i' := 1) (ls' := [fx_f 56, .inl (x1), fx_u]) (st' := [.inl (x1)]) (M1 := M) rfl ?_
  refine Ev.callS (vs := [.inl (x1)]) (rest := []) (r1 := (some (.inl z))) fd_e131 rfl rfl rfl (Nat.le_of_ble_eq_true rfl) (Nat.le_of_ble_eq_true rfl) hc ?_
  exact k
theorem r131_2 {X : fx_Sc} {M M' : fx_M} {r : Option fx_V} {x1 s0 z : Int} {M1 : fx_M} (hc : Ev X 118 0 [fx_f 56, .inl (x1)] [] M (some (.inl z)) M1) (k : Ev X 131 6 [fx_f 56, .inl (x1), .inl (s0)] [.inl (z)] M1 r M') : Ev X 131 2 [fx_f 56, .inl (x1), fx_u] [.inl (s0)] M r M' := by
  refine Ev.run 3 fd_e131 (i' := 5) (ls' := [fx_f 56, .inl (x1), .inl (s0)]) (st' := [.inl (x1), fx_f 56]) (M1 := M) rfl ?_
  refine Ev.callV (vs := [fx_f 56, .inl (x1)]) (rest := []) (r1 := (some (.inl z))) fd_e131 rfl rfl rfl (Nat.le_of_ble_eq_true rfl) (Nat.le_of_ble_eq_true rfl) rfl hc ?_
  exact k
theorem r131_6T {X : fx_Sc} {M M' : fx_M} {r : Option fx_V} {x1 x2 s0 : Int} (g : (-2147483648 ≤ s0 ∧ s0 < 2147483648)) (h : s0 ≠ 0) (k : Ev X 131 9 [fx_f 56, .inl (x1), .inl (x2)] [] M r M') : Ev X 131 6 [fx_f 56, .inl (x1), .inl (x2)] [.inl (s0)] M r M' := by
  refine Ev.ifT fd_e131 rfl g (decide_eq_true h) ?_
  exact k
theorem r131_6F {X : fx_Sc} {M M' : fx_M} {r : Option fx_V} {x1 x2 s0 : Int} (g : (-2147483648 ≤ s0 ∧ s0 < 2147483648)) (h : s0 = 0) (k : Ev X 131 7 [fx_f 56, .inl (x1), .inl (x2)] [] M r M') : Ev X 131 6 [fx_f 56, .inl (x1), .inl (x2)] [.inl (s0)] M r M' := by
  refine Ev.ifF fd_e131 rfl g (decide_eq_false (not_not_intro h)) ?_
  exact k
theorem r131_7 {X : fx_Sc} {M : fx_M} {x1 x2 : Int} : Ev X 131 7 [fx_f 56, .inl (x1), .inl (x2)] [] M (some (.inl (0))) M := by
  refine Ev.run 2 fd_e131 (i' := 21) (ls' := [fx_f 56, .inl (x1), .inl (x2)]) (st' := [.inl (0)]) (M1 := M) rfl ?_
  exact Ev.ret1 fd_e131 rfl rfl
theorem r131_9T {X : fx_Sc} {M M' : fx_M} {r : Option fx_V} {x1 x2 : Int} (g : (-2147483648 ≤ x2 ∧ x2 < 2147483648)) (h : x2 ≠ (-6)) (k : Ev X 131 14 [fx_f 56, .inl (x1), .inl (x2)] [] M r M') : Ev X 131 9 [fx_f 56, .inl (x1), .inl (x2)] [] M r M' := by
  refine Ev.run 2 fd_e131 (i' := 11) (ls' := [fx_f 56, .inl (x1), .inl (x2)]) (st' := [.inl ((-6)), .inl (x2)]) (M1 := M) rfl ?_
  refine Ev.icT fd_e131 rfl g (by decide) (decide_eq_true h) ?_
  exact k
theorem r131_9F {X : fx_Sc} {M M' : fx_M} {r : Option fx_V} {x1 x2 : Int} (g : (-2147483648 ≤ x2 ∧ x2 < 2147483648)) (h : x2 = (-6)) (k : Ev X 131 12 [fx_f 56, .inl (x1), .inl (x2)] [] M r M') : Ev X 131 9 [fx_f 56, .inl (x1), .inl (x2)] [] M r M' := by
  refine Ev.run 2 fd_e131 (i' := 11) (ls' := [fx_f 56, .inl (x1), .inl (x2)]) (st' := [.inl ((-6)), .inl (x2)]) (M1 := M) rfl ?_
  refine Ev.icF fd_e131 rfl g (by decide) (decide_eq_false (not_not_intro h)) ?_
  exact k
theorem r131_12 {X : fx_Sc} {M : fx_M} {x1 x2 : Int} : Ev X 131 12 [fx_f 56, .inl (x1), .inl (x2)] [] M (some (.inl (3))) M := by
  refine Ev.run 2 fd_e131 (i' := 21) (ls' := [fx_f 56, .inl (x1), .inl (x2)]) (st' := [.inl (3)]) (M1 := M) rfl ?_
  exact Ev.ret1 fd_e131 rfl rfl
theorem r131_14 {X : fx_Sc} {M M' : fx_M} {r : Option fx_V} {x1 x2 z : Int} {M1 : fx_M} (hc : Ev X 118 0 [fx_f 56, .inl (x2)] [] M (some (.inl z)) M1) (k : Ev X 131 17 [fx_f 56, .inl (x1), .inl (x2)] [.inl (z)] M1 r M') : Ev X 131 14 [fx_f 56, .inl (x1), .inl (x2)] [] M r M' := by
  refine Ev.run 2 fd_e131 (i' := 16) (ls' := [fx_f 56, .inl (x1), .inl (x2)]) (st' := [.inl (x2), fx_f 56]) (M1 := M) rfl ?_
  refine Ev.callV (vs := [fx_f 56, .inl (x2)]) (rest := []) (r1 := (some (.inl z))) fd_e131 rfl rfl rfl (Nat.le_of_ble_eq_true rfl) (Nat.le_of_ble_eq_true rfl) rfl hc ?_
  exact k
theorem r131_17T {X : fx_Sc} {M M' : fx_M} {r : Option fx_V} {x1 x2 s0 : Int} (g : (-2147483648 ≤ s0 ∧ s0 < 2147483648)) (h : s0 = 0) (k : Ev X 131 20 [fx_f 56, .inl (x1), .inl (x2)] [] M r M') : Ev X 131 17 [fx_f 56, .inl (x1), .inl (x2)] [.inl (s0)] M r M' := by
  refine Ev.ifT fd_e131 rfl g (decide_eq_true h) ?_
  exact k
theorem r131_17F {X : fx_Sc} {M M' : fx_M} {r : Option fx_V} {x1 x2 s0 : Int} (g : (-2147483648 ≤ s0 ∧ s0 < 2147483648)) (h : s0 ≠ 0) (k : Ev X 131 18 [fx_f 56, .inl (x1), .inl (x2)] [] M r M') : Ev X 131 17 [fx_f 56, .inl (x1), .inl (x2)] [.inl (s0)] M r M' := by
  refine Ev.ifF fd_e131 rfl g (decide_eq_false h) ?_
  exact k
theorem r131_18 {X : fx_Sc} {M : fx_M} {x1 x2 : Int} : Ev X 131 18 [fx_f 56, .inl (x1), .inl (x2)] [] M (some (.inl (1))) M := by
  refine Ev.run 2 fd_e131 (i' := 21) (ls' := [fx_f 56, .inl (x1), .inl (x2)]) (st' := [.inl (1)]) (M1 := M) rfl ?_
  exact Ev.ret1 fd_e131 rfl rfl
theorem r131_20 {X : fx_Sc} {M : fx_M} {x1 x2 : Int} : Ev X 131 20 [fx_f 56, .inl (x1), .inl (x2)] [] M (some (.inl (2))) M := by
  refine Ev.run 1 fd_e131 (i' := 21) (ls' := [fx_f 56, .inl (x1), .inl (x2)]) (st' := [.inl (2)]) (M1 := M) rfl ?_
  exact Ev.ret1 fd_e131 rfl rfl
-- 132: FoldedStripsModel.neighbour(I)I
theorem fd_e132 : fd_C 132 = fd_c132 := rfl
theorem r132_0T {X : fx_Sc} {M M' : fx_M} {r : Option fx_V} {x0 : Int} (g : (-2147483648 ≤ (fx_rem x0 24) ∧ (fx_rem x0 24) < 2147483648)) (h : 12 ≤ (fx_rem x0 24)) (k : Ev X 132 9 [.inl (x0), fx_u] [] M r M') : Ev X 132 0 [.inl (x0), fx_u] [] M r M' := by
  refine Ev.run 2 fd_e132 (i' := 2) (ls' := [.inl (x0), fx_u]) (st' := [.inl (24), .inl (x0)]) (M1 := M) rfl ?_
  refine Ev.rem fd_e132 rfl (by decide) ?_
  refine Ev.run 1 fd_e132 (i' := 4) (ls' := [.inl (x0), fx_u]) (st' := [.inl (12), .inl ((fx_rem x0 24))]) (M1 := M) rfl ?_
  refine Ev.icT fd_e132 rfl g (by decide) (decide_eq_true h) ?_
  exact k
theorem r132_0F {X : fx_Sc} {M M' : fx_M} {r : Option fx_V} {x0 : Int} (g : (-2147483648 ≤ (fx_rem x0 24) ∧ (fx_rem x0 24) < 2147483648)) (h : (fx_rem x0 24) < 12) (k : Ev X 132 5 [.inl (x0), fx_u] [] M r M') : Ev X 132 0 [.inl (x0), fx_u] [] M r M' := by
  refine Ev.run 2 fd_e132 (i' := 2) (ls' := [.inl (x0), fx_u]) (st' := [.inl (24), .inl (x0)]) (M1 := M) rfl ?_
  refine Ev.rem fd_e132 rfl (by decide) ?_
  refine Ev.run 1 fd_e132 (i' := 4) (ls' := [.inl (x0), fx_u]) (st' := [.inl (12), .inl ((fx_rem x0 24))]) (M1 := M) rfl ?_
  refine Ev.icF fd_e132 rfl g (by decide) (decide_eq_false (Int.not_le.mpr h)) ?_
  exact k
theorem r132_5 {X : fx_Sc} {M M' : fx_M} {r : Option fx_V} {x0 z : Int} {M1 : fx_M} (hc : Ev X 117 0 [.inl ((x0 - 12)), .inl (0), .inl (143)] [] M (some (.inl z)) M1) (k : Ev X 132 17 [.inl (x0), .inl ((x0 - 12))] [.inl (z)] M1 r M') : Ev X 132 5 [.inl (x0), fx_u] [] M r M' := by
  refine Ev.run 8 fd_e132 (i' := 16) (ls' := [.inl (x0), .inl ((x0 - 12))]) (st' := [.inl (143), .inl (0), .inl ((x0 - 12))]) (M1 := M) rfl ?_
  refine Ev.callS (vs := [.inl ((x0 - 12)), .inl (0), .inl (143)]) (rest := []) (r1 := (some (.inl z))) fd_e132 rfl rfl rfl (Nat.le_of_ble_eq_true rfl) (Nat.le_of_ble_eq_true rfl) hc ?_
  exact k
theorem r132_9 {X : fx_Sc} {M M' : fx_M} {r : Option fx_V} {x0 z : Int} {M1 : fx_M} (hc : Ev X 117 0 [.inl ((x0 + 12)), .inl (0), .inl (143)] [] M (some (.inl z)) M1) (k : Ev X 132 17 [.inl (x0), .inl ((x0 + 12))] [.inl (z)] M1 r M') : Ev X 132 9 [.inl (x0), fx_u] [] M r M' := by
  refine Ev.run 7 fd_e132 (i' := 16) (ls' := [.inl (x0), .inl ((x0 + 12))]) (st' := [.inl (143), .inl (0), .inl ((x0 + 12))]) (M1 := M) rfl ?_
  refine Ev.callS (vs := [.inl ((x0 + 12)), .inl (0), .inl (143)]) (rest := []) (r1 := (some (.inl z))) fd_e132 rfl rfl rfl (Nat.le_of_ble_eq_true rfl) (Nat.le_of_ble_eq_true rfl) hc ?_
  exact k
theorem r132_17T {X : fx_Sc} {M M' : fx_M} {r : Option fx_V} {x0 x1 s0 : Int} (g : (-2147483648 ≤ s0 ∧ s0 < 2147483648)) (h : s0 = 0) (k : Ev X 132 20 [.inl (x0), .inl (x1)] [] M r M') : Ev X 132 17 [.inl (x0), .inl (x1)] [.inl (s0)] M r M' := by
  refine Ev.ifT fd_e132 rfl g (decide_eq_true h) ?_
  exact k
theorem r132_17F {X : fx_Sc} {M M' : fx_M} {r : Option fx_V} {x0 x1 s0 : Int} (g : (-2147483648 ≤ s0 ∧ s0 < 2147483648)) (h : s0 ≠ 0) (k : Ev X 132 18 [.inl (x0), .inl (x1)] [] M r M') : Ev X 132 17 [.inl (x0), .inl (x1)] [.inl (s0)] M r M' := by
  refine Ev.ifF fd_e132 rfl g (decide_eq_false h) ?_
  exact k
theorem r132_18 {X : fx_Sc} {M : fx_M} {x0 x1 : Int} : Ev X 132 18 [.inl (x0), .inl (x1)] [] M (some (.inl (x1))) M := by
  refine Ev.run 2 fd_e132 (i' := 21) (ls' := [.inl (x0), .inl (x1)]) (st' := [.inl (x1)]) (M1 := M) rfl ?_
  exact Ev.ret1 fd_e132 rfl rfl
theorem r132_20 {X : fx_Sc} {M : fx_M} {x0 x1 : Int} : Ev X 132 20 [.inl (x0), .inl (x1)] [] M (some (.inl ((-6)))) M := by
  refine Ev.run 1 fd_e132 (i' := 21) (ls' := [.inl (x0), .inl (x1)]) (st' := [.inl ((-6))]) (M1 := M) rfl ?_
  exact Ev.ret1 fd_e132 rfl rfl
-- 133: FoldedStripsModel.turn(II)I
theorem fd_e133 : fd_C 133 = fd_c133 := rfl
theorem r133_0 {X : fx_Sc} {M M' : fx_M} {r : Option fx_V} {x1 x2 z : Int} {M1 : fx_M} (hc : Ev X 116 0 [.inl (x1)] [] M (some (.inl z)) M1) (k : Ev X 133 2 [fx_f 56, .inl (x1), .inl (x2)] [.inl (z)] M1 r M') : Ev X 133 0 [fx_f 56, .inl (x1), .inl (x2)] [] M r M' := by
  refine Ev.run 1 fd_e133 (i' := 1) (ls' := [fx_f 56, .inl (x1), .inl (x2)]) (st' := [.inl (x1)]) (M1 := M) rfl ?_
  refine Ev.callS (vs := [.inl (x1)]) (rest := []) (r1 := (some (.inl z))) fd_e133 rfl rfl rfl (Nat.le_of_ble_eq_true rfl) (Nat.le_of_ble_eq_true rfl) hc ?_
  exact k
theorem r133_2T {X : fx_Sc} {M M' : fx_M} {r : Option fx_V} {x1 x2 s0 : Int} (g : (-2147483648 ≤ s0 ∧ s0 < 2147483648)) (h : s0 ≠ 0) (k : Ev X 133 5 [fx_f 56, .inl (x1), .inl (x2)] [] M r M') : Ev X 133 2 [fx_f 56, .inl (x1), .inl (x2)] [.inl (s0)] M r M' := by
  refine Ev.ifT fd_e133 rfl g (decide_eq_true h) ?_
  exact k
theorem r133_2F {X : fx_Sc} {M M' : fx_M} {r : Option fx_V} {x1 x2 s0 : Int} (g : (-2147483648 ≤ s0 ∧ s0 < 2147483648)) (h : s0 = 0) (k : Ev X 133 3 [fx_f 56, .inl (x1), .inl (x2)] [] M r M') : Ev X 133 2 [fx_f 56, .inl (x1), .inl (x2)] [.inl (s0)] M r M' := by
  refine Ev.ifF fd_e133 rfl g (decide_eq_false (not_not_intro h)) ?_
  exact k
theorem r133_3 {X : fx_Sc} {M : fx_M} {x1 x2 : Int} : Ev X 133 3 [fx_f 56, .inl (x1), .inl (x2)] [] M (some (.inl ((-1)))) M := by
  refine Ev.run 1 fd_e133 (i' := 4) (ls' := [fx_f 56, .inl (x1), .inl (x2)]) (st' := [.inl ((-1))]) (M1 := M) rfl ?_
  exact Ev.ret1 fd_e133 rfl rfl
theorem r133_5 {X : fx_Sc} {M M' : fx_M} {r : Option fx_V} {x1 x2 z : Int} {M1 : fx_M} (hc : Ev X 117 0 [.inl (x2), .inl (0), .inl (2)] [] M (some (.inl z)) M1) (k : Ev X 133 9 [fx_f 56, .inl (x1), .inl (x2)] [.inl (z)] M1 r M') : Ev X 133 5 [fx_f 56, .inl (x1), .inl (x2)] [] M r M' := by
  refine Ev.run 3 fd_e133 (i' := 8) (ls' := [fx_f 56, .inl (x1), .inl (x2)]) (st' := [.inl (2), .inl (0), .inl (x2)]) (M1 := M) rfl ?_
  refine Ev.callS (vs := [.inl (x2), .inl (0), .inl (2)]) (rest := []) (r1 := (some (.inl z))) fd_e133 rfl rfl rfl (Nat.le_of_ble_eq_true rfl) (Nat.le_of_ble_eq_true rfl) hc ?_
  exact k
theorem r133_9T {X : fx_Sc} {M M' : fx_M} {r : Option fx_V} {x1 x2 s0 : Int} (g : (-2147483648 ≤ s0 ∧ s0 < 2147483648)) (h : s0 ≠ 0) (k : Ev X 133 12 [fx_f 56, .inl (x1), .inl (x2)] [] M r M') : Ev X 133 9 [fx_f 56, .inl (x1), .inl (x2)] [.inl (s0)] M r M' := by
  refine Ev.ifT fd_e133 rfl g (decide_eq_true h) ?_
  exact k
theorem r133_9F {X : fx_Sc} {M M' : fx_M} {r : Option fx_V} {x1 x2 s0 : Int} (g : (-2147483648 ≤ s0 ∧ s0 < 2147483648)) (h : s0 = 0) (k : Ev X 133 10 [fx_f 56, .inl (x1), .inl (x2)] [] M r M') : Ev X 133 9 [fx_f 56, .inl (x1), .inl (x2)] [.inl (s0)] M r M' := by
  refine Ev.ifF fd_e133 rfl g (decide_eq_false (not_not_intro h)) ?_
  exact k
theorem r133_10 {X : fx_Sc} {M : fx_M} {x1 x2 : Int} : Ev X 133 10 [fx_f 56, .inl (x1), .inl (x2)] [] M (some (.inl ((-2)))) M := by
  refine Ev.run 1 fd_e133 (i' := 11) (ls' := [fx_f 56, .inl (x1), .inl (x2)]) (st' := [.inl ((-2))]) (M1 := M) rfl ?_
  exact Ev.ret1 fd_e133 rfl rfl
theorem r133_12 {X : fx_Sc} {M M' : fx_M} {r : Option fx_V} {x1 x2 : Int} {M1 : fx_M} (hc : Ev X 119 0 [fx_f 56, fx_u] [] M none M1) (k : Ev X 133 14 [fx_f 56, .inl (x1), .inl (x2)] [] M1 r M') : Ev X 133 12 [fx_f 56, .inl (x1), .inl (x2)] [] M r M' := by
  refine Ev.run 1 fd_e133 (i' := 13) (ls' := [fx_f 56, .inl (x1), .inl (x2)]) (st' := [fx_f 56]) (M1 := M) rfl ?_
  refine Ev.callV (vs := [fx_f 56]) (rest := []) (r1 := none) fd_e133 rfl rfl rfl (Nat.le_of_ble_eq_true rfl) (Nat.le_of_ble_eq_true rfl) rfl hc ?_
  exact k
theorem r133_14T {X : fx_Sc} {M M' : fx_M} {r : Option fx_V} {x1 x2 : Int} (g : (-2147483648 ≤ x2 ∧ x2 < 2147483648)) (h : x2 = 1) (k : Ev X 133 22 [fx_f 56, .inl (x1), .inl (x2)] [.inl (0), .inl (x1), fx_f 56] M r M') : Ev X 133 14 [fx_f 56, .inl (x1), .inl (x2)] [] M r M' := by
  refine Ev.run 5 fd_e133 (i' := 19) (ls' := [fx_f 56, .inl (x1), .inl (x2)]) (st' := [.inl (1), .inl (x2), .inl (0), .inl (x1), fx_f 56]) (M1 := M) rfl ?_
  refine Ev.icT fd_e133 rfl g (by decide) (decide_eq_true h) ?_
  exact k
theorem r133_14F {X : fx_Sc} {M M' : fx_M} {r : Option fx_V} {x1 x2 : Int} (g : (-2147483648 ≤ x2 ∧ x2 < 2147483648)) (h : x2 ≠ 1) (k : Ev X 133 20 [fx_f 56, .inl (x1), .inl (x2)] [.inl (0), .inl (x1), fx_f 56] M r M') : Ev X 133 14 [fx_f 56, .inl (x1), .inl (x2)] [] M r M' := by
  refine Ev.run 5 fd_e133 (i' := 19) (ls' := [fx_f 56, .inl (x1), .inl (x2)]) (st' := [.inl (1), .inl (x2), .inl (0), .inl (x1), fx_f 56]) (M1 := M) rfl ?_
  refine Ev.icF fd_e133 rfl g (by decide) (decide_eq_false h) ?_
  exact k
theorem r133_20T {X : fx_Sc} {M M' : fx_M} {r : Option fx_V} {x1 x2 s1 s2 : Int} (g : (-2147483648 ≤ x2 ∧ x2 < 2147483648)) (h : x2 = 0) (k : Ev X 133 27 [fx_f 56, .inl (x1), .inl (x2)] [.inl (1), .inl (s2), .inl (s1), fx_f 56] M r M') : Ev X 133 20 [fx_f 56, .inl (x1), .inl (x2)] [.inl (s2), .inl (s1), fx_f 56] M r M' := by
  refine Ev.run 3 fd_e133 (i' := 24) (ls' := [fx_f 56, .inl (x1), .inl (x2)]) (st' := [.inl (x2), .inl (1), .inl (s2), .inl (s1), fx_f 56]) (M1 := M) rfl ?_
  refine Ev.ifT fd_e133 rfl g (decide_eq_true h) ?_
  exact k
theorem r133_20F {X : fx_Sc} {M M' : fx_M} {r : Option fx_V} {x1 x2 s1 s2 : Int} (g : (-2147483648 ≤ x2 ∧ x2 < 2147483648)) (h : x2 ≠ 0) (k : Ev X 133 25 [fx_f 56, .inl (x1), .inl (x2)] [.inl (1), .inl (s2), .inl (s1), fx_f 56] M r M') : Ev X 133 20 [fx_f 56, .inl (x1), .inl (x2)] [.inl (s2), .inl (s1), fx_f 56] M r M' := by
  refine Ev.run 3 fd_e133 (i' := 24) (ls' := [fx_f 56, .inl (x1), .inl (x2)]) (st' := [.inl (x2), .inl (1), .inl (s2), .inl (s1), fx_f 56]) (M1 := M) rfl ?_
  refine Ev.ifF fd_e133 rfl g (decide_eq_false h) ?_
  exact k
theorem r133_22T {X : fx_Sc} {M M' : fx_M} {r : Option fx_V} {x1 x2 s1 s2 : Int} (g : (-2147483648 ≤ x2 ∧ x2 < 2147483648)) (h : x2 = 0) (k : Ev X 133 27 [fx_f 56, .inl (x1), .inl (x2)] [.inl (0), .inl (s2), .inl (s1), fx_f 56] M r M') : Ev X 133 22 [fx_f 56, .inl (x1), .inl (x2)] [.inl (s2), .inl (s1), fx_f 56] M r M' := by
  refine Ev.run 2 fd_e133 (i' := 24) (ls' := [fx_f 56, .inl (x1), .inl (x2)]) (st' := [.inl (x2), .inl (0), .inl (s2), .inl (s1), fx_f 56]) (M1 := M) rfl ?_
  refine Ev.ifT fd_e133 rfl g (decide_eq_true h) ?_
  exact k
theorem r133_22F {X : fx_Sc} {M M' : fx_M} {r : Option fx_V} {x1 x2 s1 s2 : Int} (g : (-2147483648 ≤ x2 ∧ x2 < 2147483648)) (h : x2 ≠ 0) (k : Ev X 133 25 [fx_f 56, .inl (x1), .inl (x2)] [.inl (0), .inl (s2), .inl (s1), fx_f 56] M r M') : Ev X 133 22 [fx_f 56, .inl (x1), .inl (x2)] [.inl (s2), .inl (s1), fx_f 56] M r M' := by
  refine Ev.run 2 fd_e133 (i' := 24) (ls' := [fx_f 56, .inl (x1), .inl (x2)]) (st' := [.inl (x2), .inl (0), .inl (s2), .inl (s1), fx_f 56]) (M1 := M) rfl ?_
  refine Ev.ifF fd_e133 rfl g (decide_eq_false h) ?_
  exact k
theorem r133_25 {X : fx_Sc} {M M' : fx_M} {r : Option fx_V} {x1 x2 s1 s2 s3 : Int} {M1 : fx_M} (hc : Ev X 127 0 [fx_f 56, .inl (s1), .inl (s2), .inl (s3), .inl (1), fx_u, fx_u] [] M none M1) (k : Ev X 133 29 [fx_f 56, .inl (x1), .inl (x2)] [] M1 r M') : Ev X 133 25 [fx_f 56, .inl (x1), .inl (x2)] [.inl (s3), .inl (s2), .inl (s1), fx_f 56] M r M' := by
  refine Ev.run 2 fd_e133 (i' := 28) (ls' := [fx_f 56, .inl (x1), .inl (x2)]) (st' := [.inl (1), .inl (s3), .inl (s2), .inl (s1), fx_f 56]) (M1 := M) rfl ?_
  refine Ev.callV (vs := [fx_f 56, .inl (s1), .inl (s2), .inl (s3), .inl (1)]) (rest := []) (r1 := none) fd_e133 rfl rfl rfl (Nat.le_of_ble_eq_true rfl) (Nat.le_of_ble_eq_true rfl) rfl hc ?_
  exact k
theorem r133_27 {X : fx_Sc} {M M' : fx_M} {r : Option fx_V} {x1 x2 s1 s2 s3 : Int} {M1 : fx_M} (hc : Ev X 127 0 [fx_f 56, .inl (s1), .inl (s2), .inl (s3), .inl (0), fx_u, fx_u] [] M none M1) (k : Ev X 133 29 [fx_f 56, .inl (x1), .inl (x2)] [] M1 r M') : Ev X 133 27 [fx_f 56, .inl (x1), .inl (x2)] [.inl (s3), .inl (s2), .inl (s1), fx_f 56] M r M' := by
  refine Ev.run 1 fd_e133 (i' := 28) (ls' := [fx_f 56, .inl (x1), .inl (x2)]) (st' := [.inl (0), .inl (s3), .inl (s2), .inl (s1), fx_f 56]) (M1 := M) rfl ?_
  refine Ev.callV (vs := [fx_f 56, .inl (s1), .inl (s2), .inl (s3), .inl (0)]) (rest := []) (r1 := none) fd_e133 rfl rfl rfl (Nat.le_of_ble_eq_true rfl) (Nat.le_of_ble_eq_true rfl) rfl hc ?_
  exact k
theorem r133_29 {X : fx_Sc} {M M' : fx_M} {r : Option fx_V} {x1 x2 z : Int} {M1 : fx_M} (hc : Ev X 129 0 [fx_f 56] [] M (some (.inl z)) M1) (k : Ev X 133 31 [fx_f 56, .inl (x1), .inl (x2)] [.inl (z)] M1 r M') : Ev X 133 29 [fx_f 56, .inl (x1), .inl (x2)] [] M r M' := by
  refine Ev.run 1 fd_e133 (i' := 30) (ls' := [fx_f 56, .inl (x1), .inl (x2)]) (st' := [fx_f 56]) (M1 := M) rfl ?_
  refine Ev.callV (vs := [fx_f 56]) (rest := []) (r1 := (some (.inl z))) fd_e133 rfl rfl rfl (Nat.le_of_ble_eq_true rfl) (Nat.le_of_ble_eq_true rfl) rfl hc ?_
  exact k
theorem r133_31 {X : fx_Sc} {M : fx_M} {x1 x2 s0 : Int} : Ev X 133 31 [fx_f 56, .inl (x1), .inl (x2)] [.inl (s0)] M (some (.inl (s0))) M := by
  exact Ev.ret1 fd_e133 rfl rfl
-- 134: FoldedStripsModel.exchange(II)I
theorem fd_e134 : fd_C 134 = fd_c134 := rfl
theorem r134_0 {X : fx_Sc} {M M' : fx_M} {r : Option fx_V} {x1 x2 z : Int} {M1 : fx_M} (hc : Ev X 116 0 [.inl (x1)] [] M (some (.inl z)) M1) (k : Ev X 134 2 [fx_f 56, .inl (x1), .inl (x2)] [.inl (z)] M1 r M') : Ev X 134 0 [fx_f 56, .inl (x1), .inl (x2)] [] M r M' := by
  refine Ev.run 1 fd_e134 (i' := 1) (ls' := [fx_f 56, .inl (x1), .inl (x2)]) (st' := [.inl (x1)]) (M1 := M) rfl ?_
  refine Ev.callS (vs := [.inl (x1)]) (rest := []) (r1 := (some (.inl z))) fd_e134 rfl rfl rfl (Nat.le_of_ble_eq_true rfl) (Nat.le_of_ble_eq_true rfl) hc ?_
  exact k
theorem r134_2T {X : fx_Sc} {M M' : fx_M} {r : Option fx_V} {x1 x2 s0 : Int} (g : (-2147483648 ≤ s0 ∧ s0 < 2147483648)) (h : s0 = 0) (k : Ev X 134 6 [fx_f 56, .inl (x1), .inl (x2)] [] M r M') : Ev X 134 2 [fx_f 56, .inl (x1), .inl (x2)] [.inl (s0)] M r M' := by
  refine Ev.ifT fd_e134 rfl g (decide_eq_true h) ?_
  exact k
theorem r134_2F {X : fx_Sc} {M M' : fx_M} {r : Option fx_V} {x1 x2 s0 : Int} (g : (-2147483648 ≤ s0 ∧ s0 < 2147483648)) (h : s0 ≠ 0) (k : Ev X 134 3 [fx_f 56, .inl (x1), .inl (x2)] [] M r M') : Ev X 134 2 [fx_f 56, .inl (x1), .inl (x2)] [.inl (s0)] M r M' := by
  refine Ev.ifF fd_e134 rfl g (decide_eq_false h) ?_
  exact k
theorem r134_3 {X : fx_Sc} {M M' : fx_M} {r : Option fx_V} {x1 x2 z : Int} {M1 : fx_M} (hc : Ev X 116 0 [.inl (x2)] [] M (some (.inl z)) M1) (k : Ev X 134 5 [fx_f 56, .inl (x1), .inl (x2)] [.inl (z)] M1 r M') : Ev X 134 3 [fx_f 56, .inl (x1), .inl (x2)] [] M r M' := by
  refine Ev.run 1 fd_e134 (i' := 4) (ls' := [fx_f 56, .inl (x1), .inl (x2)]) (st' := [.inl (x2)]) (M1 := M) rfl ?_
  refine Ev.callS (vs := [.inl (x2)]) (rest := []) (r1 := (some (.inl z))) fd_e134 rfl rfl rfl (Nat.le_of_ble_eq_true rfl) (Nat.le_of_ble_eq_true rfl) hc ?_
  exact k
theorem r134_5T {X : fx_Sc} {M M' : fx_M} {r : Option fx_V} {x1 x2 s0 : Int} (g : (-2147483648 ≤ s0 ∧ s0 < 2147483648)) (h : s0 ≠ 0) (k : Ev X 134 8 [fx_f 56, .inl (x1), .inl (x2)] [] M r M') : Ev X 134 5 [fx_f 56, .inl (x1), .inl (x2)] [.inl (s0)] M r M' := by
  refine Ev.ifT fd_e134 rfl g (decide_eq_true h) ?_
  exact k
theorem r134_5F {X : fx_Sc} {M M' : fx_M} {r : Option fx_V} {x1 x2 s0 : Int} (g : (-2147483648 ≤ s0 ∧ s0 < 2147483648)) (h : s0 = 0) (k : Ev X 134 6 [fx_f 56, .inl (x1), .inl (x2)] [] M r M') : Ev X 134 5 [fx_f 56, .inl (x1), .inl (x2)] [.inl (s0)] M r M' := by
  refine Ev.ifF fd_e134 rfl g (decide_eq_false (not_not_intro h)) ?_
  exact k
theorem r134_6 {X : fx_Sc} {M : fx_M} {x1 x2 : Int} : Ev X 134 6 [fx_f 56, .inl (x1), .inl (x2)] [] M (some (.inl ((-1)))) M := by
  refine Ev.run 1 fd_e134 (i' := 7) (ls' := [fx_f 56, .inl (x1), .inl (x2)]) (st' := [.inl ((-1))]) (M1 := M) rfl ?_
  exact Ev.ret1 fd_e134 rfl rfl
theorem r134_8T {X : fx_Sc} {M M' : fx_M} {r : Option fx_V} {x1 x2 : Int} (g : (-2147483648 ≤ x1 ∧ x1 < 2147483648) ∧ (-2147483648 ≤ x2 ∧ x2 < 2147483648)) (h : x1 ≠ x2) (k : Ev X 134 13 [fx_f 56, .inl (x1), .inl (x2)] [] M r M') : Ev X 134 8 [fx_f 56, .inl (x1), .inl (x2)] [] M r M' := by
  refine Ev.run 2 fd_e134 (i' := 10) (ls' := [fx_f 56, .inl (x1), .inl (x2)]) (st' := [.inl (x2), .inl (x1)]) (M1 := M) rfl ?_
  refine Ev.icT fd_e134 rfl g.1 g.2 (decide_eq_true h) ?_
  exact k
theorem r134_8F {X : fx_Sc} {M M' : fx_M} {r : Option fx_V} {x1 x2 : Int} (g : (-2147483648 ≤ x1 ∧ x1 < 2147483648) ∧ (-2147483648 ≤ x2 ∧ x2 < 2147483648)) (h : x1 = x2) (k : Ev X 134 11 [fx_f 56, .inl (x1), .inl (x2)] [] M r M') : Ev X 134 8 [fx_f 56, .inl (x1), .inl (x2)] [] M r M' := by
  refine Ev.run 2 fd_e134 (i' := 10) (ls' := [fx_f 56, .inl (x1), .inl (x2)]) (st' := [.inl (x2), .inl (x1)]) (M1 := M) rfl ?_
  refine Ev.icF fd_e134 rfl g.1 g.2 (decide_eq_false (not_not_intro h)) ?_
  exact k
theorem r134_11 {X : fx_Sc} {M : fx_M} {x1 x2 : Int} : Ev X 134 11 [fx_f 56, .inl (x1), .inl (x2)] [] M (some (.inl ((-5)))) M := by
  refine Ev.run 1 fd_e134 (i' := 12) (ls' := [fx_f 56, .inl (x1), .inl (x2)]) (st' := [.inl ((-5))]) (M1 := M) rfl ?_
  exact Ev.ret1 fd_e134 rfl rfl
theorem r134_13 {X : fx_Sc} {M M' : fx_M} {r : Option fx_V} {x1 x2 : Int} {M1 : fx_M} (hc : Ev X 119 0 [fx_f 56, fx_u] [] M none M1) (k : Ev X 134 15 [fx_f 56, .inl (x1), .inl (x2)] [] M1 r M') : Ev X 134 13 [fx_f 56, .inl (x1), .inl (x2)] [] M r M' := by
  refine Ev.run 1 fd_e134 (i' := 14) (ls' := [fx_f 56, .inl (x1), .inl (x2)]) (st' := [fx_f 56]) (M1 := M) rfl ?_
  refine Ev.callV (vs := [fx_f 56]) (rest := []) (r1 := none) fd_e134 rfl rfl rfl (Nat.le_of_ble_eq_true rfl) (Nat.le_of_ble_eq_true rfl) rfl hc ?_
  exact k
theorem r134_15 {X : fx_Sc} {M M' : fx_M} {r : Option fx_V} {x1 x2 : Int} {M1 : fx_M} (hc : Ev X 135 0 [fx_f 56, .inl (x1), .inl (x2), fx_u, fx_u] [] M none M1) (k : Ev X 134 19 [fx_f 56, .inl (x1), .inl (x2)] [] M1 r M') : Ev X 134 15 [fx_f 56, .inl (x1), .inl (x2)] [] M r M' := by
  refine Ev.run 3 fd_e134 (i' := 18) (ls' := [fx_f 56, .inl (x1), .inl (x2)]) (st' := [.inl (x2), .inl (x1), fx_f 56]) (M1 := M) rfl ?_
  refine Ev.callV (vs := [fx_f 56, .inl (x1), .inl (x2)]) (rest := []) (r1 := none) fd_e134 rfl rfl rfl (Nat.le_of_ble_eq_true rfl) (Nat.le_of_ble_eq_true rfl) rfl hc ?_
  exact k
theorem r134_19 {X : fx_Sc} {M M' : fx_M} {r : Option fx_V} {x1 x2 z : Int} {M1 : fx_M} (hc : Ev X 129 0 [fx_f 56] [] M (some (.inl z)) M1) (k : Ev X 134 21 [fx_f 56, .inl (x1), .inl (x2)] [.inl (z)] M1 r M') : Ev X 134 19 [fx_f 56, .inl (x1), .inl (x2)] [] M r M' := by
  refine Ev.run 1 fd_e134 (i' := 20) (ls' := [fx_f 56, .inl (x1), .inl (x2)]) (st' := [fx_f 56]) (M1 := M) rfl ?_
  refine Ev.callV (vs := [fx_f 56]) (rest := []) (r1 := (some (.inl z))) fd_e134 rfl rfl rfl (Nat.le_of_ble_eq_true rfl) (Nat.le_of_ble_eq_true rfl) rfl hc ?_
  exact k
theorem r134_21 {X : fx_Sc} {M : fx_M} {x1 x2 s0 : Int} : Ev X 134 21 [fx_f 56, .inl (x1), .inl (x2)] [.inl (s0)] M (some (.inl (s0))) M := by
  exact Ev.ret1 fd_e134 rfl rfl
-- 135: FoldedStripsModel.exchanges(II)V
theorem fd_e135 : fd_C 135 = fd_c135 := rfl
theorem r135_0 {X : fx_Sc} {M M' : fx_M} {r : Option fx_V} {x1 x2 : Int} (k : Ev X 135 2 [fx_f 56, .inl (x1), .inl (x2), .inl (0), fx_u] [] M r M') : Ev X 135 0 [fx_f 56, .inl (x1), .inl (x2), fx_u, fx_u] [] M r M' := by
  refine Ev.run 2 fd_e135 (i' := 2) (ls' := [fx_f 56, .inl (x1), .inl (x2), .inl (0), fx_u]) (st' := []) (M1 := M) rfl ?_
  exact k
theorem r135_2T {X : fx_Sc} {M M' : fx_M} {r : Option fx_V} {x1 x2 x3 : Int} {v4 : fx_V} (g : (-2147483648 ≤ x3 ∧ x3 < 2147483648)) (h : 24 ≤ x3) (k : Ev X 135 41 [fx_f 56, .inl (x1), .inl (x2), .inl (x3), v4] [] M r M') : Ev X 135 2 [fx_f 56, .inl (x1), .inl (x2), .inl (x3), v4] [] M r M' := by
  refine Ev.run 2 fd_e135 (i' := 4) (ls' := [fx_f 56, .inl (x1), .inl (x2), .inl (x3), v4]) (st' := [.inl (24), .inl (x3)]) (M1 := M) rfl ?_
  refine Ev.icT fd_e135 rfl g (by decide) (decide_eq_true h) ?_
  exact k
theorem r135_2F {X : fx_Sc} {M M' : fx_M} {r : Option fx_V} {x1 x2 x3 : Int} {v4 : fx_V} (g : (-2147483648 ≤ x3 ∧ x3 < 2147483648)) (h : x3 < 24) (k : Ev X 135 5 [fx_f 56, .inl (x1), .inl (x2), .inl (x3), v4] [] M r M') : Ev X 135 2 [fx_f 56, .inl (x1), .inl (x2), .inl (x3), v4] [] M r M' := by
  refine Ev.run 2 fd_e135 (i' := 4) (ls' := [fx_f 56, .inl (x1), .inl (x2), .inl (x3), v4]) (st' := [.inl (24), .inl (x3)]) (M1 := M) rfl ?_
  refine Ev.icF fd_e135 rfl g (by decide) (decide_eq_false (Int.not_le.mpr h)) ?_
  exact k
theorem r135_5 {X : fx_Sc} {M M' : fx_M} {r : Option fx_V} {x1 x2 x3 : Int} {v4 : fx_V} (g : (0 ≤ ((24 * x1) + x3) ∧ ((24 * x1) + x3) < ((150 : Nat) : Int)) ∧ (0 ≤ ((24 * x2) + x3) ∧ ((24 * x2) + x3) < ((150 : Nat) : Int))) (k : Ev X 135 2 [fx_f 56, .inl (x1), .inl (x2), .inl ((x3 + 1)), .inl ((M 57 (((24 * x1) + x3)).toNat))] [] (fx_set (fx_set M 57 (fx_up (M 57) (((24 * x1) + x3)).toNat (M 57 (((24 * x2) + x3)).toNat))) 57 (fx_up ((fx_set M 57 (fx_up (M 57) (((24 * x1) + x3)).toNat (M 57 (((24 * x2) + x3)).toNat))) 57) (((24 * x2) + x3)).toNat (M 57 (((24 * x1) + x3)).toNat))) r M') : Ev X 135 5 [fx_f 56, .inl (x1), .inl (x2), .inl (x3), v4] [] M r M' := by
  refine Ev.run 7 fd_e135 (i' := 12) (ls' := [fx_f 56, .inl (x1), .inl (x2), .inl (x3), v4]) (st' := [.inl (((24 * x1) + x3)), fx_f 57]) (M1 := M) rfl ?_
  refine Ev.iald fd_e135 rfl rfl (by decide) g.1 ?_
  refine Ev.run 15 fd_e135 (i' := 28) (ls' := [fx_f 56, .inl (x1), .inl (x2), .inl (x3), .inl ((M 57 (((24 * x1) + x3)).toNat))]) (st' := [.inl (((24 * x2) + x3)), fx_f 57, .inl (((24 * x1) + x3)), fx_f 57]) (M1 := M) rfl ?_
  refine Ev.iald fd_e135 rfl rfl (by decide) g.2 ?_
  refine Ev.iast fd_e135 rfl rfl (by decide) g.1 ?_
  refine Ev.run 8 fd_e135 (i' := 38) (ls' := [fx_f 56, .inl (x1), .inl (x2), .inl (x3), .inl ((M 57 (((24 * x1) + x3)).toNat))]) (st' := [.inl ((M 57 (((24 * x1) + x3)).toNat)), .inl (((24 * x2) + x3)), fx_f 57]) (M1 := (fx_set M 57 (fx_up (M 57) (((24 * x1) + x3)).toNat (M 57 (((24 * x2) + x3)).toNat)))) rfl ?_
  refine Ev.iast fd_e135 rfl rfl (by decide) g.2 ?_
  refine Ev.run 2 fd_e135 (i' := 2) (ls' := [fx_f 56, .inl (x1), .inl (x2), .inl ((x3 + 1)), .inl ((M 57 (((24 * x1) + x3)).toNat))]) (st' := []) (M1 := (fx_set (fx_set M 57 (fx_up (M 57) (((24 * x1) + x3)).toNat (M 57 (((24 * x2) + x3)).toNat))) 57 (fx_up ((fx_set M 57 (fx_up (M 57) (((24 * x1) + x3)).toNat (M 57 (((24 * x2) + x3)).toNat))) 57) (((24 * x2) + x3)).toNat (M 57 (((24 * x1) + x3)).toNat)))) rfl ?_
  exact k
theorem r135_41 {X : fx_Sc} {M : fx_M} {x1 x2 x3 : Int} {v4 : fx_V} (g : (0 ≤ (144 + x1) ∧ (144 + x1) < ((150 : Nat) : Int)) ∧ (0 ≤ (144 + x2) ∧ (144 + x2) < ((150 : Nat) : Int))) : Ev X 135 41 [fx_f 56, .inl (x1), .inl (x2), .inl (x3), v4] [] M none (fx_set (fx_set M 57 (fx_up (M 57) ((144 + x1)).toNat (M 57 ((144 + x2)).toNat))) 57 (fx_up ((fx_set M 57 (fx_up (M 57) ((144 + x1)).toNat (M 57 ((144 + x2)).toNat))) 57) ((144 + x2)).toNat (M 57 ((144 + x1)).toNat))) := by
  refine Ev.run 5 fd_e135 (i' := 46) (ls' := [fx_f 56, .inl (x1), .inl (x2), .inl (x3), v4]) (st' := [.inl ((144 + x1)), fx_f 57]) (M1 := M) rfl ?_
  refine Ev.iald fd_e135 rfl rfl (by decide) g.1 ?_
  refine Ev.run 11 fd_e135 (i' := 58) (ls' := [fx_f 56, .inl (x1), .inl (x2), .inl ((M 57 ((144 + x1)).toNat)), v4]) (st' := [.inl ((144 + x2)), fx_f 57, .inl ((144 + x1)), fx_f 57]) (M1 := M) rfl ?_
  refine Ev.iald fd_e135 rfl rfl (by decide) g.2 ?_
  refine Ev.iast fd_e135 rfl rfl (by decide) g.1 ?_
  refine Ev.run 6 fd_e135 (i' := 66) (ls' := [fx_f 56, .inl (x1), .inl (x2), .inl ((M 57 ((144 + x1)).toNat)), v4]) (st' := [.inl ((M 57 ((144 + x1)).toNat)), .inl ((144 + x2)), fx_f 57]) (M1 := (fx_set M 57 (fx_up (M 57) ((144 + x1)).toNat (M 57 ((144 + x2)).toNat)))) rfl ?_
  refine Ev.iast fd_e135 rfl rfl (by decide) g.2 ?_
  exact Ev.retv fd_e135 rfl rfl
-- 136: FoldedStripsModel.takeUp(I)I
theorem fd_e136 : fd_C 136 = fd_c136 := rfl
theorem r136_0 {X : fx_Sc} {M M' : fx_M} {r : Option fx_V} {x1 z : Int} {M1 : fx_M} (hc : Ev X 117 0 [.inl (x1), .inl (1), .inl (5)] [] M (some (.inl z)) M1) (k : Ev X 136 4 [fx_f 56, .inl (x1), fx_u, fx_u, fx_u] [.inl (z)] M1 r M') : Ev X 136 0 [fx_f 56, .inl (x1), fx_u, fx_u, fx_u] [] M r M' := by
  refine Ev.run 3 fd_e136 (i' := 3) (ls' := [fx_f 56, .inl (x1), fx_u, fx_u, fx_u]) (st' := [.inl (5), .inl (1), .inl (x1)]) (M1 := M) rfl ?_
  refine Ev.callS (vs := [.inl (x1), .inl (1), .inl (5)]) (rest := []) (r1 := (some (.inl z))) fd_e136 rfl rfl rfl (Nat.le_of_ble_eq_true rfl) (Nat.le_of_ble_eq_true rfl) hc ?_
  exact k
theorem r136_4T {X : fx_Sc} {M M' : fx_M} {r : Option fx_V} {x1 s0 : Int} (g : (-2147483648 ≤ s0 ∧ s0 < 2147483648)) (h : s0 ≠ 0) (k : Ev X 136 7 [fx_f 56, .inl (x1), fx_u, fx_u, fx_u] [] M r M') : Ev X 136 4 [fx_f 56, .inl (x1), fx_u, fx_u, fx_u] [.inl (s0)] M r M' := by
  refine Ev.ifT fd_e136 rfl g (decide_eq_true h) ?_
  exact k
theorem r136_4F {X : fx_Sc} {M M' : fx_M} {r : Option fx_V} {x1 s0 : Int} (g : (-2147483648 ≤ s0 ∧ s0 < 2147483648)) (h : s0 = 0) (k : Ev X 136 5 [fx_f 56, .inl (x1), fx_u, fx_u, fx_u] [] M r M') : Ev X 136 4 [fx_f 56, .inl (x1), fx_u, fx_u, fx_u] [.inl (s0)] M r M' := by
  refine Ev.ifF fd_e136 rfl g (decide_eq_false (not_not_intro h)) ?_
  exact k
theorem r136_5 {X : fx_Sc} {M : fx_M} {x1 : Int} : Ev X 136 5 [fx_f 56, .inl (x1), fx_u, fx_u, fx_u] [] M (some (.inl ((-1)))) M := by
  refine Ev.run 1 fd_e136 (i' := 6) (ls' := [fx_f 56, .inl (x1), fx_u, fx_u, fx_u]) (st' := [.inl ((-1))]) (M1 := M) rfl ?_
  exact Ev.ret1 fd_e136 rfl rfl
theorem r136_7 {X : fx_Sc} {M M' : fx_M} {r : Option fx_V} {x1 : Int} {M1 : fx_M} (hc : Ev X 119 0 [fx_f 56, fx_u] [] M none M1) (k : Ev X 136 9 [fx_f 56, .inl (x1), fx_u, fx_u, fx_u] [] M1 r M') : Ev X 136 7 [fx_f 56, .inl (x1), fx_u, fx_u, fx_u] [] M r M' := by
  refine Ev.run 1 fd_e136 (i' := 8) (ls' := [fx_f 56, .inl (x1), fx_u, fx_u, fx_u]) (st' := [fx_f 56]) (M1 := M) rfl ?_
  refine Ev.callV (vs := [fx_f 56]) (rest := []) (r1 := none) fd_e136 rfl rfl rfl (Nat.le_of_ble_eq_true rfl) (Nat.le_of_ble_eq_true rfl) rfl hc ?_
  exact k
theorem r136_9 {X : fx_Sc} {M M' : fx_M} {r : Option fx_V} {x1 : Int} (k : Ev X 136 13 [fx_f 56, .inl (x1), .inl (0), .inl (0), fx_u] [] M r M') : Ev X 136 9 [fx_f 56, .inl (x1), fx_u, fx_u, fx_u] [] M r M' := by
  refine Ev.run 4 fd_e136 (i' := 13) (ls' := [fx_f 56, .inl (x1), .inl (0), .inl (0), fx_u]) (st' := []) (M1 := M) rfl ?_
  exact k
theorem r136_13T {X : fx_Sc} {M M' : fx_M} {r : Option fx_V} {x1 x2 x3 : Int} {v4 : fx_V} (g : (-2147483648 ≤ x3 ∧ x3 < 2147483648)) (h : 12 ≤ x3) (k : Ev X 136 48 [fx_f 56, .inl (x1), .inl (x2), .inl (x3), v4] [] M r M') : Ev X 136 13 [fx_f 56, .inl (x1), .inl (x2), .inl (x3), v4] [] M r M' := by
  refine Ev.run 2 fd_e136 (i' := 15) (ls' := [fx_f 56, .inl (x1), .inl (x2), .inl (x3), v4]) (st' := [.inl (12), .inl (x3)]) (M1 := M) rfl ?_
  refine Ev.icT fd_e136 rfl g (by decide) (decide_eq_true h) ?_
  exact k
theorem r136_13F {X : fx_Sc} {M M' : fx_M} {r : Option fx_V} {x1 x2 x3 : Int} {v4 : fx_V} (g : (-2147483648 ≤ x3 ∧ x3 < 2147483648)) (h : x3 < 12) (k : Ev X 136 16 [fx_f 56, .inl (x1), .inl (x2), .inl (x3), v4] [] M r M') : Ev X 136 13 [fx_f 56, .inl (x1), .inl (x2), .inl (x3), v4] [] M r M' := by
  refine Ev.run 2 fd_e136 (i' := 15) (ls' := [fx_f 56, .inl (x1), .inl (x2), .inl (x3), v4]) (st' := [.inl (12), .inl (x3)]) (M1 := M) rfl ?_
  refine Ev.icF fd_e136 rfl g (by decide) (decide_eq_false (Int.not_le.mpr h)) ?_
  exact k
theorem r136_16 {X : fx_Sc} {M M' : fx_M} {r : Option fx_V} {x1 x2 x3 z : Int} {v4 : fx_V} {M1 : fx_M} (hc : Ev X 118 0 [fx_f 56, .inl ((((24 * x1) + x3) - 12))] [] M (some (.inl z)) M1) (k : Ev X 136 27 [fx_f 56, .inl (x1), .inl (x2), .inl (x3), .inl (((24 * x1) + x3))] [.inl (z)] M1 r M') : Ev X 136 16 [fx_f 56, .inl (x1), .inl (x2), .inl (x3), v4] [] M r M' := by
  refine Ev.run 10 fd_e136 (i' := 26) (ls' := [fx_f 56, .inl (x1), .inl (x2), .inl (x3), .inl (((24 * x1) + x3))]) (st' := [.inl ((((24 * x1) + x3) - 12)), fx_f 56]) (M1 := M) rfl ?_
  refine Ev.callV (vs := [fx_f 56, .inl ((((24 * x1) + x3) - 12))]) (rest := []) (r1 := (some (.inl z))) fd_e136 rfl rfl rfl (Nat.le_of_ble_eq_true rfl) (Nat.le_of_ble_eq_true rfl) rfl hc ?_
  exact k
theorem r136_27T {X : fx_Sc} {M M' : fx_M} {r : Option fx_V} {x1 x2 x3 x4 s0 : Int} (g : (-2147483648 ≤ s0 ∧ s0 < 2147483648)) (h : s0 = 0) (k : Ev X 136 46 [fx_f 56, .inl (x1), .inl (x2), .inl (x3), .inl (x4)] [] M r M') : Ev X 136 27 [fx_f 56, .inl (x1), .inl (x2), .inl (x3), .inl (x4)] [.inl (s0)] M r M' := by
  refine Ev.ifT fd_e136 rfl g (decide_eq_true h) ?_
  exact k
theorem r136_27F {X : fx_Sc} {M M' : fx_M} {r : Option fx_V} {x1 x2 x3 x4 s0 : Int} (g : (-2147483648 ≤ s0 ∧ s0 < 2147483648)) (h : s0 ≠ 0) (k : Ev X 136 28 [fx_f 56, .inl (x1), .inl (x2), .inl (x3), .inl (x4)] [] M r M') : Ev X 136 27 [fx_f 56, .inl (x1), .inl (x2), .inl (x3), .inl (x4)] [.inl (s0)] M r M' := by
  refine Ev.ifF fd_e136 rfl g (decide_eq_false h) ?_
  exact k
theorem r136_28 {X : fx_Sc} {M M' : fx_M} {r : Option fx_V} {x1 x2 x3 x4 z : Int} {M1 : fx_M} (hc : Ev X 118 0 [fx_f 56, .inl (x4)] [] M (some (.inl z)) M1) (k : Ev X 136 31 [fx_f 56, .inl (x1), .inl (x2), .inl (x3), .inl (x4)] [.inl (z)] M1 r M') : Ev X 136 28 [fx_f 56, .inl (x1), .inl (x2), .inl (x3), .inl (x4)] [] M r M' := by
  refine Ev.run 2 fd_e136 (i' := 30) (ls' := [fx_f 56, .inl (x1), .inl (x2), .inl (x3), .inl (x4)]) (st' := [.inl (x4), fx_f 56]) (M1 := M) rfl ?_
  refine Ev.callV (vs := [fx_f 56, .inl (x4)]) (rest := []) (r1 := (some (.inl z))) fd_e136 rfl rfl rfl (Nat.le_of_ble_eq_true rfl) (Nat.le_of_ble_eq_true rfl) rfl hc ?_
  exact k
theorem r136_31T {X : fx_Sc} {M M' : fx_M} {r : Option fx_V} {x1 x2 x3 x4 s0 : Int} (g : (-2147483648 ≤ s0 ∧ s0 < 2147483648)) (h : s0 ≠ 0) (k : Ev X 136 46 [fx_f 56, .inl (x1), .inl (x2), .inl (x3), .inl (x4)] [] M r M') : Ev X 136 31 [fx_f 56, .inl (x1), .inl (x2), .inl (x3), .inl (x4)] [.inl (s0)] M r M' := by
  refine Ev.ifT fd_e136 rfl g (decide_eq_true h) ?_
  exact k
theorem r136_31F {X : fx_Sc} {M M' : fx_M} {r : Option fx_V} {x1 x2 x3 x4 s0 : Int} (g : (-2147483648 ≤ s0 ∧ s0 < 2147483648)) (h : s0 = 0) (k : Ev X 136 32 [fx_f 56, .inl (x1), .inl (x2), .inl (x3), .inl (x4)] [] M r M') : Ev X 136 31 [fx_f 56, .inl (x1), .inl (x2), .inl (x3), .inl (x4)] [.inl (s0)] M r M' := by
  refine Ev.ifF fd_e136 rfl g (decide_eq_false (not_not_intro h)) ?_
  exact k
theorem r136_32 {X : fx_Sc} {M M' : fx_M} {r : Option fx_V} {x1 x2 x3 x4 z : Int} {M1 : fx_M} (hc : Ev X 118 0 [fx_f 56, .inl ((x4 + 12))] [] M (some (.inl z)) M1) (k : Ev X 136 37 [fx_f 56, .inl (x1), .inl (x2), .inl (x3), .inl (x4)] [.inl (z)] M1 r M') : Ev X 136 32 [fx_f 56, .inl (x1), .inl (x2), .inl (x3), .inl (x4)] [] M r M' := by
  refine Ev.run 4 fd_e136 (i' := 36) (ls' := [fx_f 56, .inl (x1), .inl (x2), .inl (x3), .inl (x4)]) (st' := [.inl ((x4 + 12)), fx_f 56]) (M1 := M) rfl ?_
  refine Ev.callV (vs := [fx_f 56, .inl ((x4 + 12))]) (rest := []) (r1 := (some (.inl z))) fd_e136 rfl rfl rfl (Nat.le_of_ble_eq_true rfl) (Nat.le_of_ble_eq_true rfl) rfl hc ?_
  exact k
theorem r136_37T {X : fx_Sc} {M M' : fx_M} {r : Option fx_V} {x1 x2 x3 x4 s0 : Int} (g : (-2147483648 ≤ s0 ∧ s0 < 2147483648)) (h : s0 ≠ 0) (k : Ev X 136 46 [fx_f 56, .inl (x1), .inl (x2), .inl (x3), .inl (x4)] [] M r M') : Ev X 136 37 [fx_f 56, .inl (x1), .inl (x2), .inl (x3), .inl (x4)] [.inl (s0)] M r M' := by
  refine Ev.ifT fd_e136 rfl g (decide_eq_true h) ?_
  exact k
theorem r136_37F {X : fx_Sc} {M M' : fx_M} {r : Option fx_V} {x1 x2 x3 x4 s0 : Int} (g : (-2147483648 ≤ s0 ∧ s0 < 2147483648)) (h : s0 = 0) (k : Ev X 136 38 [fx_f 56, .inl (x1), .inl (x2), .inl (x3), .inl (x4)] [] M r M') : Ev X 136 37 [fx_f 56, .inl (x1), .inl (x2), .inl (x3), .inl (x4)] [.inl (s0)] M r M' := by
  refine Ev.ifF fd_e136 rfl g (decide_eq_false (not_not_intro h)) ?_
  exact k
theorem r136_38 {X : fx_Sc} {M M' : fx_M} {r : Option fx_V} {x1 x2 x3 x4 : Int} {M1 : fx_M} (hc : Ev X 120 0 [fx_f 56, .inl (x1), .inl (x3), .inl ((12 + x3))] [] M none M1) (k : Ev X 136 45 [fx_f 56, .inl (x1), .inl (x2), .inl (x3), .inl (x4)] [] M1 r M') : Ev X 136 38 [fx_f 56, .inl (x1), .inl (x2), .inl (x3), .inl (x4)] [] M r M' := by
  refine Ev.run 6 fd_e136 (i' := 44) (ls' := [fx_f 56, .inl (x1), .inl (x2), .inl (x3), .inl (x4)]) (st' := [.inl ((12 + x3)), .inl (x3), .inl (x1), fx_f 56]) (M1 := M) rfl ?_
  refine Ev.callV (vs := [fx_f 56, .inl (x1), .inl (x3), .inl ((12 + x3))]) (rest := []) (r1 := none) fd_e136 rfl rfl rfl (Nat.le_of_ble_eq_true rfl) (Nat.le_of_ble_eq_true rfl) rfl hc ?_
  exact k
theorem r136_45 {X : fx_Sc} {M M' : fx_M} {r : Option fx_V} {x1 x2 x3 x4 : Int} (k : Ev X 136 13 [fx_f 56, .inl (x1), .inl ((x2 + 1)), .inl ((x3 + 1)), .inl (x4)] [] M r M') : Ev X 136 45 [fx_f 56, .inl (x1), .inl (x2), .inl (x3), .inl (x4)] [] M r M' := by
  refine Ev.run 3 fd_e136 (i' := 13) (ls' := [fx_f 56, .inl (x1), .inl ((x2 + 1)), .inl ((x3 + 1)), .inl (x4)]) (st' := []) (M1 := M) rfl ?_
  exact k
theorem r136_46 {X : fx_Sc} {M M' : fx_M} {r : Option fx_V} {x1 x2 x3 x4 : Int} (k : Ev X 136 13 [fx_f 56, .inl (x1), .inl (x2), .inl ((x3 + 1)), .inl (x4)] [] M r M') : Ev X 136 46 [fx_f 56, .inl (x1), .inl (x2), .inl (x3), .inl (x4)] [] M r M' := by
  refine Ev.run 2 fd_e136 (i' := 13) (ls' := [fx_f 56, .inl (x1), .inl (x2), .inl ((x3 + 1)), .inl (x4)]) (st' := []) (M1 := M) rfl ?_
  exact k
theorem r136_48 {X : fx_Sc} {M : fx_M} {x1 x2 x3 : Int} {v4 : fx_V} : Ev X 136 48 [fx_f 56, .inl (x1), .inl (x2), .inl (x3), v4] [] M (some (.inl (x2))) M := by
  refine Ev.run 1 fd_e136 (i' := 49) (ls' := [fx_f 56, .inl (x1), .inl (x2), .inl (x3), v4]) (st' := [.inl (x2)]) (M1 := M) rfl ?_
  exact Ev.ret1 fd_e136 rfl rfl
-- 137: FoldedStripsModel.draw(II)I
theorem fd_e137 : fd_C 137 = fd_c137 := rfl
theorem r137_0 {X : fx_Sc} {M M' : fx_M} {r : Option fx_V} {x1 x2 z : Int} {M1 : fx_M} (hc : Ev X 116 0 [.inl (x1)] [] M (some (.inl z)) M1) (k : Ev X 137 2 [fx_f 56, .inl (x1), .inl (x2), fx_u] [.inl (z)] M1 r M') : Ev X 137 0 [fx_f 56, .inl (x1), .inl (x2), fx_u] [] M r M' := by
  refine Ev.run 1 fd_e137 (i' := 1) (ls' := [fx_f 56, .inl (x1), .inl (x2), fx_u]) (st' := [.inl (x1)]) (M1 := M) rfl ?_
  refine Ev.callS (vs := [.inl (x1)]) (rest := []) (r1 := (some (.inl z))) fd_e137 rfl rfl rfl (Nat.le_of_ble_eq_true rfl) (Nat.le_of_ble_eq_true rfl) hc ?_
  exact k
theorem r137_2T {X : fx_Sc} {M M' : fx_M} {r : Option fx_V} {x1 x2 s0 : Int} (g : (-2147483648 ≤ s0 ∧ s0 < 2147483648)) (h : s0 ≠ 0) (k : Ev X 137 5 [fx_f 56, .inl (x1), .inl (x2), fx_u] [] M r M') : Ev X 137 2 [fx_f 56, .inl (x1), .inl (x2), fx_u] [.inl (s0)] M r M' := by
  refine Ev.ifT fd_e137 rfl g (decide_eq_true h) ?_
  exact k
theorem r137_2F {X : fx_Sc} {M M' : fx_M} {r : Option fx_V} {x1 x2 s0 : Int} (g : (-2147483648 ≤ s0 ∧ s0 < 2147483648)) (h : s0 = 0) (k : Ev X 137 3 [fx_f 56, .inl (x1), .inl (x2), fx_u] [] M r M') : Ev X 137 2 [fx_f 56, .inl (x1), .inl (x2), fx_u] [.inl (s0)] M r M' := by
  refine Ev.ifF fd_e137 rfl g (decide_eq_false (not_not_intro h)) ?_
  exact k
theorem r137_3 {X : fx_Sc} {M : fx_M} {x1 x2 : Int} : Ev X 137 3 [fx_f 56, .inl (x1), .inl (x2), fx_u] [] M (some (.inl ((-1)))) M := by
  refine Ev.run 1 fd_e137 (i' := 4) (ls' := [fx_f 56, .inl (x1), .inl (x2), fx_u]) (st' := [.inl ((-1))]) (M1 := M) rfl ?_
  exact Ev.ret1 fd_e137 rfl rfl
theorem r137_5 {X : fx_Sc} {M M' : fx_M} {r : Option fx_V} {x1 x2 z : Int} {M1 : fx_M} (hc : Ev X 117 0 [.inl (x2), .inl (0), .inl (5)] [] M (some (.inl z)) M1) (k : Ev X 137 9 [fx_f 56, .inl (x1), .inl (x2), fx_u] [.inl (z)] M1 r M') : Ev X 137 5 [fx_f 56, .inl (x1), .inl (x2), fx_u] [] M r M' := by
  refine Ev.run 3 fd_e137 (i' := 8) (ls' := [fx_f 56, .inl (x1), .inl (x2), fx_u]) (st' := [.inl (5), .inl (0), .inl (x2)]) (M1 := M) rfl ?_
  refine Ev.callS (vs := [.inl (x2), .inl (0), .inl (5)]) (rest := []) (r1 := (some (.inl z))) fd_e137 rfl rfl rfl (Nat.le_of_ble_eq_true rfl) (Nat.le_of_ble_eq_true rfl) hc ?_
  exact k
theorem r137_9T {X : fx_Sc} {M M' : fx_M} {r : Option fx_V} {x1 x2 s0 : Int} (g : (-2147483648 ≤ s0 ∧ s0 < 2147483648)) (h : s0 ≠ 0) (k : Ev X 137 12 [fx_f 56, .inl (x1), .inl (x2), fx_u] [] M r M') : Ev X 137 9 [fx_f 56, .inl (x1), .inl (x2), fx_u] [.inl (s0)] M r M' := by
  refine Ev.ifT fd_e137 rfl g (decide_eq_true h) ?_
  exact k
theorem r137_9F {X : fx_Sc} {M M' : fx_M} {r : Option fx_V} {x1 x2 s0 : Int} (g : (-2147483648 ≤ s0 ∧ s0 < 2147483648)) (h : s0 = 0) (k : Ev X 137 10 [fx_f 56, .inl (x1), .inl (x2), fx_u] [] M r M') : Ev X 137 9 [fx_f 56, .inl (x1), .inl (x2), fx_u] [.inl (s0)] M r M' := by
  refine Ev.ifF fd_e137 rfl g (decide_eq_false (not_not_intro h)) ?_
  exact k
theorem r137_10 {X : fx_Sc} {M : fx_M} {x1 x2 : Int} : Ev X 137 10 [fx_f 56, .inl (x1), .inl (x2), fx_u] [] M (some (.inl ((-2)))) M := by
  refine Ev.run 1 fd_e137 (i' := 11) (ls' := [fx_f 56, .inl (x1), .inl (x2), fx_u]) (st' := [.inl ((-2))]) (M1 := M) rfl ?_
  exact Ev.ret1 fd_e137 rfl rfl
theorem r137_12 {X : fx_Sc} {M M' : fx_M} {r : Option fx_V} {x1 x2 z : Int} {M1 : fx_M} (hc : Ev X 138 0 [fx_f 56, fx_u] [] M (some (.inl z)) M1) (k : Ev X 137 14 [fx_f 56, .inl (x1), .inl (x2), fx_u] [.inl (z)] M1 r M') : Ev X 137 12 [fx_f 56, .inl (x1), .inl (x2), fx_u] [] M r M' := by
  refine Ev.run 1 fd_e137 (i' := 13) (ls' := [fx_f 56, .inl (x1), .inl (x2), fx_u]) (st' := [fx_f 56]) (M1 := M) rfl ?_
  refine Ev.callV (vs := [fx_f 56]) (rest := []) (r1 := (some (.inl z))) fd_e137 rfl rfl rfl (Nat.le_of_ble_eq_true rfl) (Nat.le_of_ble_eq_true rfl) rfl hc ?_
  exact k
theorem r137_14T {X : fx_Sc} {M M' : fx_M} {r : Option fx_V} {x1 x2 s0 : Int} (g : (-2147483648 ≤ s0 ∧ s0 < 2147483648)) (h : s0 < 0) (k : Ev X 137 17 [fx_f 56, .inl (x1), .inl (x2), fx_u] [] M r M') : Ev X 137 14 [fx_f 56, .inl (x1), .inl (x2), fx_u] [.inl (s0)] M r M' := by
  refine Ev.ifT fd_e137 rfl g (decide_eq_true h) ?_
  exact k
theorem r137_14F {X : fx_Sc} {M M' : fx_M} {r : Option fx_V} {x1 x2 s0 : Int} (g : (-2147483648 ≤ s0 ∧ s0 < 2147483648)) (h : 0 ≤ s0) (k : Ev X 137 15 [fx_f 56, .inl (x1), .inl (x2), fx_u] [] M r M') : Ev X 137 14 [fx_f 56, .inl (x1), .inl (x2), fx_u] [.inl (s0)] M r M' := by
  refine Ev.ifF fd_e137 rfl g (decide_eq_false (Int.not_lt.mpr h)) ?_
  exact k
theorem r137_15 {X : fx_Sc} {M : fx_M} {x1 x2 : Int} : Ev X 137 15 [fx_f 56, .inl (x1), .inl (x2), fx_u] [] M (some (.inl ((-3)))) M := by
  refine Ev.run 1 fd_e137 (i' := 16) (ls' := [fx_f 56, .inl (x1), .inl (x2), fx_u]) (st' := [.inl ((-3))]) (M1 := M) rfl ?_
  exact Ev.ret1 fd_e137 rfl rfl
theorem r137_17 {X : fx_Sc} {M M' : fx_M} {r : Option fx_V} {x1 x2 : Int} {M1 : fx_M} (hc : Ev X 119 0 [fx_f 56, fx_u] [] M none M1) (k : Ev X 137 19 [fx_f 56, .inl (x1), .inl (x2), fx_u] [] M1 r M') : Ev X 137 17 [fx_f 56, .inl (x1), .inl (x2), fx_u] [] M r M' := by
  refine Ev.run 1 fd_e137 (i' := 18) (ls' := [fx_f 56, .inl (x1), .inl (x2), fx_u]) (st' := [fx_f 56]) (M1 := M) rfl ?_
  refine Ev.callV (vs := [fx_f 56]) (rest := []) (r1 := none) fd_e137 rfl rfl rfl (Nat.le_of_ble_eq_true rfl) (Nat.le_of_ble_eq_true rfl) rfl hc ?_
  exact k
theorem r137_19 {X : fx_Sc} {M M' : fx_M} {r : Option fx_V} {x1 x2 : Int} {M1 : fx_M} (hc : Ev X 124 0 [fx_f 56, .inl (x1), fx_u] [] M none M1) (k : Ev X 137 22 [fx_f 56, .inl (x1), .inl (x2), fx_u] [] M1 r M') : Ev X 137 19 [fx_f 56, .inl (x1), .inl (x2), fx_u] [] M r M' := by
  refine Ev.run 2 fd_e137 (i' := 21) (ls' := [fx_f 56, .inl (x1), .inl (x2), fx_u]) (st' := [.inl (x1), fx_f 56]) (M1 := M) rfl ?_
  refine Ev.callV (vs := [fx_f 56, .inl (x1)]) (rest := []) (r1 := none) fd_e137 rfl rfl rfl (Nat.le_of_ble_eq_true rfl) (Nat.le_of_ble_eq_true rfl) rfl hc ?_
  exact k
theorem r137_22 {X : fx_Sc} {M M' : fx_M} {r : Option fx_V} {x1 x2 : Int} (k : Ev X 137 24 [fx_f 56, .inl (x1), .inl (x2), .inl (0)] [] M r M') : Ev X 137 22 [fx_f 56, .inl (x1), .inl (x2), fx_u] [] M r M' := by
  refine Ev.run 2 fd_e137 (i' := 24) (ls' := [fx_f 56, .inl (x1), .inl (x2), .inl (0)]) (st' := []) (M1 := M) rfl ?_
  exact k
theorem r137_24T {X : fx_Sc} {M M' : fx_M} {r : Option fx_V} {x1 x2 x3 : Int} (g : (-2147483648 ≤ x3 ∧ x3 < 2147483648) ∧ (-2147483648 ≤ (M 56 17) ∧ (M 56 17) < 2147483648)) (h : (M 56 17) ≤ x3) (k : Ev X 137 47 [fx_f 56, .inl (x1), .inl (x2), .inl (x3)] [] M r M') : Ev X 137 24 [fx_f 56, .inl (x1), .inl (x2), .inl (x3)] [] M r M' := by
  refine Ev.run 3 fd_e137 (i' := 27) (ls' := [fx_f 56, .inl (x1), .inl (x2), .inl (x3)]) (st' := [.inl ((M 56 17)), .inl (x3)]) (M1 := M) rfl ?_
  refine Ev.icT fd_e137 rfl g.1 g.2 (decide_eq_true h) ?_
  exact k
theorem r137_24F {X : fx_Sc} {M M' : fx_M} {r : Option fx_V} {x1 x2 x3 : Int} (g : (-2147483648 ≤ x3 ∧ x3 < 2147483648) ∧ (-2147483648 ≤ (M 56 17) ∧ (M 56 17) < 2147483648)) (h : x3 < (M 56 17)) (k : Ev X 137 28 [fx_f 56, .inl (x1), .inl (x2), .inl (x3)] [] M r M') : Ev X 137 24 [fx_f 56, .inl (x1), .inl (x2), .inl (x3)] [] M r M' := by
  refine Ev.run 3 fd_e137 (i' := 27) (ls' := [fx_f 56, .inl (x1), .inl (x2), .inl (x3)]) (st' := [.inl ((M 56 17)), .inl (x3)]) (M1 := M) rfl ?_
  refine Ev.icF fd_e137 rfl g.1 g.2 (decide_eq_false (Int.not_le.mpr h)) ?_
  exact k
theorem r137_28 {X : fx_Sc} {M M' : fx_M} {r : Option fx_V} {x1 x2 x3 : Int} {M1 : fx_M} (g : (0 ≤ (2 * x3) ∧ (2 * x3) < ((32 : Nat) : Int)) ∧ (0 ≤ ((2 * x3) + 1) ∧ ((2 * x3) + 1) < ((32 : Nat) : Int))) (hc : Ev X 120 0 [fx_f 56, .inl (x1), .inl ((M 69 ((2 * x3)).toNat)), .inl ((M 69 (((2 * x3) + 1)).toNat))] [] M none M1) (k : Ev X 137 45 [fx_f 56, .inl (x1), .inl (x2), .inl (x3)] [] M1 r M') : Ev X 137 28 [fx_f 56, .inl (x1), .inl (x2), .inl (x3)] [] M r M' := by
  refine Ev.run 7 fd_e137 (i' := 35) (ls' := [fx_f 56, .inl (x1), .inl (x2), .inl (x3)]) (st' := [.inl ((2 * x3)), fx_f 69, .inl (x1), fx_f 56]) (M1 := M) rfl ?_
  refine Ev.iald fd_e137 rfl rfl (by decide) g.1 ?_
  refine Ev.run 7 fd_e137 (i' := 43) (ls' := [fx_f 56, .inl (x1), .inl (x2), .inl (x3)]) (st' := [.inl (((2 * x3) + 1)), fx_f 69, .inl ((M 69 ((2 * x3)).toNat)), .inl (x1), fx_f 56]) (M1 := M) rfl ?_
  refine Ev.iald fd_e137 rfl rfl (by decide) g.2 ?_
  refine Ev.callV (vs := [fx_f 56, .inl (x1), .inl ((M 69 ((2 * x3)).toNat)), .inl ((M 69 (((2 * x3) + 1)).toNat))]) (rest := []) (r1 := none) fd_e137 rfl rfl rfl (Nat.le_of_ble_eq_true rfl) (Nat.le_of_ble_eq_true rfl) rfl hc ?_
  exact k
theorem r137_45 {X : fx_Sc} {M M' : fx_M} {r : Option fx_V} {x1 x2 x3 : Int} (k : Ev X 137 24 [fx_f 56, .inl (x1), .inl (x2), .inl ((x3 + 1))] [] M r M') : Ev X 137 45 [fx_f 56, .inl (x1), .inl (x2), .inl (x3)] [] M r M' := by
  refine Ev.run 2 fd_e137 (i' := 24) (ls' := [fx_f 56, .inl (x1), .inl (x2), .inl ((x3 + 1))]) (st' := []) (M1 := M) rfl ?_
  exact k
theorem r137_47 {X : fx_Sc} {M : fx_M} {x1 x2 x3 : Int} (g : (0 ≤ (144 + x1) ∧ (144 + x1) < ((150 : Nat) : Int))) : Ev X 137 47 [fx_f 56, .inl (x1), .inl (x2), .inl (x3)] [] M (some (.inl (((fx_set (fx_set M 57 (fx_up (M 57) ((144 + x1)).toNat x2)) 56 (fx_up ((fx_set M 57 (fx_up (M 57) ((144 + x1)).toNat x2)) 56) 15 0)) 56 17)))) (fx_set (fx_set M 57 (fx_up (M 57) ((144 + x1)).toNat x2)) 56 (fx_up ((fx_set M 57 (fx_up (M 57) ((144 + x1)).toNat x2)) 56) 15 0)) := by
  refine Ev.run 6 fd_e137 (i' := 53) (ls' := [fx_f 56, .inl (x1), .inl (x2), .inl (x3)]) (st' := [.inl (x2), .inl ((144 + x1)), fx_f 57]) (M1 := M) rfl ?_
  refine Ev.iast fd_e137 rfl rfl (by decide) g ?_
  refine Ev.run 5 fd_e137 (i' := 59) (ls' := [fx_f 56, .inl (x1), .inl (x2), .inl (x3)]) (st' := [.inl (((fx_set (fx_set M 57 (fx_up (M 57) ((144 + x1)).toNat x2)) 56 (fx_up ((fx_set M 57 (fx_up (M 57) ((144 + x1)).toNat x2)) 56) 15 0)) 56 17))]) (M1 := (fx_set (fx_set M 57 (fx_up (M 57) ((144 + x1)).toNat x2)) 56 (fx_up ((fx_set M 57 (fx_up (M 57) ((144 + x1)).toNat x2)) 56) 15 0))) rfl ?_
  exact Ev.ret1 fd_e137 rfl rfl
-- 138: FoldedStripsModel.faultOf()I
theorem fd_e138 : fd_C 138 = fd_c138 := rfl
theorem r138_0 {X : fx_Sc} {M M' : fx_M} {r : Option fx_V} {z : Int} {M1 : fx_M} (hc : Ev X 139 0 [fx_f 56, fx_u, fx_u, fx_u, fx_u, fx_u, fx_u] [] (fx_set (fx_set (fx_set M 56 (fx_up (M 56) 18 0)) 56 (fx_up ((fx_set M 56 (fx_up (M 56) 18 0)) 56) 17 0)) 56 (fx_up ((fx_set (fx_set M 56 (fx_up (M 56) 18 0)) 56 (fx_up ((fx_set M 56 (fx_up (M 56) 18 0)) 56) 17 0)) 56) 19 0)) (some (.inl z)) M1) (k : Ev X 138 11 [fx_f 56, fx_u] [.inl (z)] M1 r M') : Ev X 138 0 [fx_f 56, fx_u] [] M r M' := by
  refine Ev.run 10 fd_e138 (i' := 10) (ls' := [fx_f 56, fx_u]) (st' := [fx_f 56]) (M1 := (fx_set (fx_set (fx_set M 56 (fx_up (M 56) 18 0)) 56 (fx_up ((fx_set M 56 (fx_up (M 56) 18 0)) 56) 17 0)) 56 (fx_up ((fx_set (fx_set M 56 (fx_up (M 56) 18 0)) 56 (fx_up ((fx_set M 56 (fx_up (M 56) 18 0)) 56) 17 0)) 56) 19 0))) rfl ?_
  refine Ev.callV (vs := [fx_f 56]) (rest := []) (r1 := (some (.inl z))) fd_e138 rfl rfl rfl (Nat.le_of_ble_eq_true rfl) (Nat.le_of_ble_eq_true rfl) rfl hc ?_
  exact k
theorem r138_11 {X : fx_Sc} {M M' : fx_M} {r : Option fx_V} {s0 : Int} (k : Ev X 138 12 [fx_f 56, .inl (s0)] [] M r M') : Ev X 138 11 [fx_f 56, fx_u] [.inl (s0)] M r M' := by
  refine Ev.run 1 fd_e138 (i' := 12) (ls' := [fx_f 56, .inl (s0)]) (st' := []) (M1 := M) rfl ?_
  exact k
theorem r138_12T {X : fx_Sc} {M M' : fx_M} {r : Option fx_V} {x1 : Int} (g : (-2147483648 ≤ x1 ∧ x1 < 2147483648)) (h : x1 = 0) (k : Ev X 138 33 [fx_f 56, .inl (x1)] [] M r M') : Ev X 138 12 [fx_f 56, .inl (x1)] [] M r M' := by
  refine Ev.run 1 fd_e138 (i' := 13) (ls' := [fx_f 56, .inl (x1)]) (st' := [.inl (x1)]) (M1 := M) rfl ?_
  refine Ev.ifT fd_e138 rfl g (decide_eq_true h) ?_
  exact k
theorem r138_12F {X : fx_Sc} {M M' : fx_M} {r : Option fx_V} {x1 : Int} (g : (-2147483648 ≤ x1 ∧ x1 < 2147483648)) (h : x1 ≠ 0) (k : Ev X 138 14 [fx_f 56, .inl (x1)] [] M r M') : Ev X 138 12 [fx_f 56, .inl (x1)] [] M r M' := by
  refine Ev.run 1 fd_e138 (i' := 13) (ls' := [fx_f 56, .inl (x1)]) (st' := [.inl (x1)]) (M1 := M) rfl ?_
  refine Ev.ifF fd_e138 rfl g (decide_eq_false h) ?_
  exact k
theorem r138_14T {X : fx_Sc} {M M' : fx_M} {r : Option fx_V} {x1 : Int} (g : (-2147483648 ≤ (M 56 18) ∧ (M 56 18) < 2147483648) ∧ (-2147483648 ≤ (M 56 15) ∧ (M 56 15) < 2147483648)) (h : (M 56 15) ≤ (M 56 18)) (k : Ev X 138 33 [fx_f 56, .inl (x1)] [] M r M') : Ev X 138 14 [fx_f 56, .inl (x1)] [] M r M' := by
  refine Ev.run 4 fd_e138 (i' := 18) (ls' := [fx_f 56, .inl (x1)]) (st' := [.inl ((M 56 15)), .inl ((M 56 18))]) (M1 := M) rfl ?_
  refine Ev.icT fd_e138 rfl g.1 g.2 (decide_eq_true h) ?_
  exact k
theorem r138_14F {X : fx_Sc} {M M' : fx_M} {r : Option fx_V} {x1 : Int} (g : (-2147483648 ≤ (M 56 18) ∧ (M 56 18) < 2147483648) ∧ (-2147483648 ≤ (M 56 15) ∧ (M 56 15) < 2147483648)) (h : (M 56 18) < (M 56 15)) (k : Ev X 138 19 [fx_f 56, .inl (x1)] [] M r M') : Ev X 138 14 [fx_f 56, .inl (x1)] [] M r M' := by
  refine Ev.run 4 fd_e138 (i' := 18) (ls' := [fx_f 56, .inl (x1)]) (st' := [.inl ((M 56 15)), .inl ((M 56 18))]) (M1 := M) rfl ?_
  refine Ev.icF fd_e138 rfl g.1 g.2 (decide_eq_false (Int.not_le.mpr h)) ?_
  exact k
theorem r138_19 {X : fx_Sc} {M M' : fx_M} {r : Option fx_V} {x1 z : Int} {M1 : fx_M} (hc : Ev X 147 0 [fx_f 56, fx_u, fx_u] [] M (some (.inl z)) M1) (k : Ev X 138 23 [fx_f 56, .inl (x1)] [.inl (z), .inl (59), fx_f 56] M1 r M') : Ev X 138 19 [fx_f 56, .inl (x1)] [] M r M' := by
  refine Ev.run 3 fd_e138 (i' := 22) (ls' := [fx_f 56, .inl (x1)]) (st' := [fx_f 56, .inl (59), fx_f 56]) (M1 := M) rfl ?_
  refine Ev.callV (vs := [fx_f 56]) (rest := [.inl (59), fx_f 56]) (r1 := (some (.inl z))) fd_e138 rfl rfl rfl (Nat.le_of_ble_eq_true rfl) (Nat.le_of_ble_eq_true rfl) rfl hc ?_
  exact k
theorem r138_23 {X : fx_Sc} {M M' : fx_M} {r : Option fx_V} {x1 s1 s2 z : Int} {M1 : fx_M} (hc : Ev X 146 0 [fx_f 56, .inl (s1), .inl (s2), fx_u] [] M (some (.inl z)) M1) (k : Ev X 138 24 [fx_f 56, .inl (x1)] [.inl (z)] M1 r M') : Ev X 138 23 [fx_f 56, .inl (x1)] [.inl (s2), .inl (s1), fx_f 56] M r M' := by
  refine Ev.callV (vs := [fx_f 56, .inl (s1), .inl (s2)]) (rest := []) (r1 := (some (.inl z))) fd_e138 rfl rfl rfl (Nat.le_of_ble_eq_true rfl) (Nat.le_of_ble_eq_true rfl) rfl hc ?_
  exact k
theorem r138_24T {X : fx_Sc} {M M' : fx_M} {r : Option fx_V} {x1 s0 : Int} (g : (-2147483648 ≤ s0 ∧ s0 < 2147483648)) (h : s0 = 0) (k : Ev X 138 30 [fx_f 56, .inl (x1)] [] M r M') : Ev X 138 24 [fx_f 56, .inl (x1)] [.inl (s0)] M r M' := by
  refine Ev.ifT fd_e138 rfl g (decide_eq_true h) ?_
  exact k
theorem r138_24F {X : fx_Sc} {M M' : fx_M} {r : Option fx_V} {x1 s0 : Int} (g : (-2147483648 ≤ s0 ∧ s0 < 2147483648)) (h : s0 ≠ 0) (k : Ev X 138 25 [fx_f 56, .inl (x1)] [] M r M') : Ev X 138 24 [fx_f 56, .inl (x1)] [.inl (s0)] M r M' := by
  refine Ev.ifF fd_e138 rfl g (decide_eq_false h) ?_
  exact k
theorem r138_25 {X : fx_Sc} {M M' : fx_M} {r : Option fx_V} {x1 z : Int} {M1 : fx_M} (hc : Ev X 139 0 [fx_f 56, fx_u, fx_u, fx_u, fx_u, fx_u, fx_u] [] M (some (.inl z)) M1) (k : Ev X 138 27 [fx_f 56, .inl (x1)] [.inl (z)] M1 r M') : Ev X 138 25 [fx_f 56, .inl (x1)] [] M r M' := by
  refine Ev.run 1 fd_e138 (i' := 26) (ls' := [fx_f 56, .inl (x1)]) (st' := [fx_f 56]) (M1 := M) rfl ?_
  refine Ev.callV (vs := [fx_f 56]) (rest := []) (r1 := (some (.inl z))) fd_e138 rfl rfl rfl (Nat.le_of_ble_eq_true rfl) (Nat.le_of_ble_eq_true rfl) rfl hc ?_
  exact k
theorem r138_27T {X : fx_Sc} {M M' : fx_M} {r : Option fx_V} {x1 s0 : Int} (g : (-2147483648 ≤ s0 ∧ s0 < 2147483648)) (h : s0 = 0) (k : Ev X 138 30 [fx_f 56, .inl (x1)] [] M r M') : Ev X 138 27 [fx_f 56, .inl (x1)] [.inl (s0)] M r M' := by
  refine Ev.ifT fd_e138 rfl g (decide_eq_true h) ?_
  exact k
theorem r138_27F {X : fx_Sc} {M M' : fx_M} {r : Option fx_V} {x1 s0 : Int} (g : (-2147483648 ≤ s0 ∧ s0 < 2147483648)) (h : s0 ≠ 0) (k : Ev X 138 28 [fx_f 56, .inl (x1)] [] M r M') : Ev X 138 27 [fx_f 56, .inl (x1)] [.inl (s0)] M r M' := by
  refine Ev.ifF fd_e138 rfl g (decide_eq_false h) ?_
  exact k
theorem r138_28 {X : fx_Sc} {M M' : fx_M} {r : Option fx_V} {x1 : Int} (k : Ev X 138 12 [fx_f 56, .inl (1)] [] M r M') : Ev X 138 28 [fx_f 56, .inl (x1)] [] M r M' := by
  refine Ev.run 4 fd_e138 (i' := 12) (ls' := [fx_f 56, .inl (1)]) (st' := []) (M1 := M) rfl ?_
  exact k
theorem r138_30 {X : fx_Sc} {M M' : fx_M} {r : Option fx_V} {x1 : Int} (k : Ev X 138 12 [fx_f 56, .inl (0)] [] M r M') : Ev X 138 30 [fx_f 56, .inl (x1)] [] M r M' := by
  refine Ev.run 3 fd_e138 (i' := 12) (ls' := [fx_f 56, .inl (0)]) (st' := []) (M1 := M) rfl ?_
  exact k
theorem r138_33T {X : fx_Sc} {M M' : fx_M} {r : Option fx_V} {x1 : Int} (g : (-2147483648 ≤ x1 ∧ x1 < 2147483648)) (h : x1 = 0) (k : Ev X 138 37 [fx_f 56, .inl (x1)] [] M r M') : Ev X 138 33 [fx_f 56, .inl (x1)] [] M r M' := by
  refine Ev.run 1 fd_e138 (i' := 34) (ls' := [fx_f 56, .inl (x1)]) (st' := [.inl (x1)]) (M1 := M) rfl ?_
  refine Ev.ifT fd_e138 rfl g (decide_eq_true h) ?_
  exact k
theorem r138_33F {X : fx_Sc} {M M' : fx_M} {r : Option fx_V} {x1 : Int} (g : (-2147483648 ≤ x1 ∧ x1 < 2147483648)) (h : x1 ≠ 0) (k : Ev X 138 35 [fx_f 56, .inl (x1)] [] M r M') : Ev X 138 33 [fx_f 56, .inl (x1)] [] M r M' := by
  refine Ev.run 1 fd_e138 (i' := 34) (ls' := [fx_f 56, .inl (x1)]) (st' := [.inl (x1)]) (M1 := M) rfl ?_
  refine Ev.ifF fd_e138 rfl g (decide_eq_false h) ?_
  exact k
theorem r138_35 {X : fx_Sc} {M : fx_M} {x1 : Int} : Ev X 138 35 [fx_f 56, .inl (x1)] [] M (some (.inl ((-1)))) M := by
  refine Ev.run 2 fd_e138 (i' := 39) (ls' := [fx_f 56, .inl (x1)]) (st' := [.inl ((-1))]) (M1 := M) rfl ?_
  exact Ev.ret1 fd_e138 rfl rfl
theorem r138_37 {X : fx_Sc} {M : fx_M} {x1 : Int} : Ev X 138 37 [fx_f 56, .inl (x1)] [] M (some (.inl ((M 56 18)))) M := by
  refine Ev.run 2 fd_e138 (i' := 39) (ls' := [fx_f 56, .inl (x1)]) (st' := [.inl ((M 56 18))]) (M1 := M) rfl ?_
  exact Ev.ret1 fd_e138 rfl rfl
-- 139: FoldedStripsModel.readsStroke()Z
theorem fd_e139 : fd_C 139 = fd_c139 := rfl
theorem r139_0 {X : fx_Sc} {M M' : fx_M} {r : Option fx_V} {z : Int} {M1 : fx_M} (hc : Ev X 140 0 [fx_f 56, .inl (97), .inl (108)] [] M (some (.inl z)) M1) (k : Ev X 139 4 [fx_f 56, fx_u, fx_u, fx_u, fx_u, fx_u, fx_u] [.inl (z)] M1 r M') : Ev X 139 0 [fx_f 56, fx_u, fx_u, fx_u, fx_u, fx_u, fx_u] [] M r M' := by
  refine Ev.run 3 fd_e139 (i' := 3) (ls' := [fx_f 56, fx_u, fx_u, fx_u, fx_u, fx_u, fx_u]) (st' := [.inl (108), .inl (97), fx_f 56]) (M1 := M) rfl ?_
  refine Ev.callV (vs := [fx_f 56, .inl (97), .inl (108)]) (rest := []) (r1 := (some (.inl z))) fd_e139 rfl rfl rfl (Nat.le_of_ble_eq_true rfl) (Nat.le_of_ble_eq_true rfl) rfl hc ?_
  exact k
theorem r139_4T {X : fx_Sc} {M M' : fx_M} {r : Option fx_V} {s0 : Int} (g : (-2147483648 ≤ s0 ∧ s0 < 2147483648)) (h : s0 = 0) (k : Ev X 139 13 [fx_f 56, fx_u, fx_u, fx_u, fx_u, fx_u, fx_u] [] M r M') : Ev X 139 4 [fx_f 56, fx_u, fx_u, fx_u, fx_u, fx_u, fx_u] [.inl (s0)] M r M' := by
  refine Ev.ifT fd_e139 rfl g (decide_eq_true h) ?_
  exact k
theorem r139_4F {X : fx_Sc} {M M' : fx_M} {r : Option fx_V} {s0 : Int} (g : (-2147483648 ≤ s0 ∧ s0 < 2147483648)) (h : s0 ≠ 0) (k : Ev X 139 5 [fx_f 56, fx_u, fx_u, fx_u, fx_u, fx_u, fx_u] [] M r M') : Ev X 139 4 [fx_f 56, fx_u, fx_u, fx_u, fx_u, fx_u, fx_u] [.inl (s0)] M r M' := by
  refine Ev.ifF fd_e139 rfl g (decide_eq_false h) ?_
  exact k
theorem r139_5T {X : fx_Sc} {M M' : fx_M} {r : Option fx_V} (g : (0 ≤ (M 56 18) ∧ (M 56 18) < ((60 : Nat) : Int)) ∧ (-2147483648 ≤ ((M 70 ((M 56 18)).toNat) - 97) ∧ ((M 70 ((M 56 18)).toNat) - 97) < 2147483648)) (h : ((M 70 ((M 56 18)).toNat) - 97) < 0) (k : Ev X 139 29 [fx_f 56, .inl (((M 70 ((M 56 18)).toNat) - 97)), fx_u, fx_u, fx_u, fx_u, fx_u] [] M r M') : Ev X 139 5 [fx_f 56, fx_u, fx_u, fx_u, fx_u, fx_u, fx_u] [] M r M' := by
  refine Ev.run 4 fd_e139 (i' := 9) (ls' := [fx_f 56, fx_u, fx_u, fx_u, fx_u, fx_u, fx_u]) (st' := [.inl ((M 56 18)), fx_f 70]) (M1 := M) rfl ?_
  refine Ev.cald fd_e139 rfl rfl (by decide) g.1 ?_
  refine Ev.run 5 fd_e139 (i' := 16) (ls' := [fx_f 56, .inl (((M 70 ((M 56 18)).toNat) - 97)), fx_u, fx_u, fx_u, fx_u, fx_u]) (st' := [.inl (((M 70 ((M 56 18)).toNat) - 97))]) (M1 := M) rfl ?_
  refine Ev.ifT fd_e139 rfl g.2 (decide_eq_true h) ?_
  exact k
theorem r139_5F {X : fx_Sc} {M M' : fx_M} {r : Option fx_V} (g : (0 ≤ (M 56 18) ∧ (M 56 18) < ((60 : Nat) : Int)) ∧ (-2147483648 ≤ ((M 70 ((M 56 18)).toNat) - 97) ∧ ((M 70 ((M 56 18)).toNat) - 97) < 2147483648)) (h : 0 ≤ ((M 70 ((M 56 18)).toNat) - 97)) (k : Ev X 139 17 [fx_f 56, .inl (((M 70 ((M 56 18)).toNat) - 97)), fx_u, fx_u, fx_u, fx_u, fx_u] [] M r M') : Ev X 139 5 [fx_f 56, fx_u, fx_u, fx_u, fx_u, fx_u, fx_u] [] M r M' := by
  refine Ev.run 4 fd_e139 (i' := 9) (ls' := [fx_f 56, fx_u, fx_u, fx_u, fx_u, fx_u, fx_u]) (st' := [.inl ((M 56 18)), fx_f 70]) (M1 := M) rfl ?_
  refine Ev.cald fd_e139 rfl rfl (by decide) g.1 ?_
  refine Ev.run 5 fd_e139 (i' := 16) (ls' := [fx_f 56, .inl (((M 70 ((M 56 18)).toNat) - 97)), fx_u, fx_u, fx_u, fx_u, fx_u]) (st' := [.inl (((M 70 ((M 56 18)).toNat) - 97))]) (M1 := M) rfl ?_
  refine Ev.ifF fd_e139 rfl g.2 (decide_eq_false (Int.not_lt.mpr h)) ?_
  exact k
theorem r139_13 {X : fx_Sc} {M : fx_M} : Ev X 139 13 [fx_f 56, fx_u, fx_u, fx_u, fx_u, fx_u, fx_u] [] M (some (.inl (0))) M := by
  refine Ev.run 3 fd_e139 (i' := 16) (ls' := [fx_f 56, .inl ((-1)), fx_u, fx_u, fx_u, fx_u, fx_u]) (st' := [.inl ((-1))]) (M1 := M) rfl ?_
  refine Ev.ifT fd_e139 rfl (by decide) (by decide) ?_
  refine Ev.run 1 fd_e139 (i' := 30) (ls' := [fx_f 56, .inl ((-1)), fx_u, fx_u, fx_u, fx_u, fx_u]) (st' := [.inl (0)]) (M1 := M) rfl ?_
  exact Ev.ret2 fd_e139 rfl rfl (by decide)
theorem r139_17 {X : fx_Sc} {M M' : fx_M} {r : Option fx_V} {x1 z : Int} {M1 : fx_M} (hc : Ev X 141 0 [fx_f 56, .inl (x1)] [] M (some (.inl z)) M1) (k : Ev X 139 20 [fx_f 56, .inl (x1), fx_u, fx_u, fx_u, fx_u, fx_u] [.inl (z)] M1 r M') : Ev X 139 17 [fx_f 56, .inl (x1), fx_u, fx_u, fx_u, fx_u, fx_u] [] M r M' := by
  refine Ev.run 2 fd_e139 (i' := 19) (ls' := [fx_f 56, .inl (x1), fx_u, fx_u, fx_u, fx_u, fx_u]) (st' := [.inl (x1), fx_f 56]) (M1 := M) rfl ?_
  refine Ev.callV (vs := [fx_f 56, .inl (x1)]) (rest := []) (r1 := (some (.inl z))) fd_e139 rfl rfl rfl (Nat.le_of_ble_eq_true rfl) (Nat.le_of_ble_eq_true rfl) rfl hc ?_
  exact k
theorem r139_20T {X : fx_Sc} {M M' : fx_M} {r : Option fx_V} {x1 s0 : Int} (g : (-2147483648 ≤ s0 ∧ s0 < 2147483648)) (h : s0 ≠ 0) (k : Ev X 139 31 [fx_f 56, .inl (x1), fx_u, fx_u, fx_u, fx_u, fx_u] [] M r M') : Ev X 139 20 [fx_f 56, .inl (x1), fx_u, fx_u, fx_u, fx_u, fx_u] [.inl (s0)] M r M' := by
  refine Ev.ifT fd_e139 rfl g (decide_eq_true h) ?_
  exact k
theorem r139_20F {X : fx_Sc} {M M' : fx_M} {r : Option fx_V} {x1 s0 : Int} (g : (-2147483648 ≤ s0 ∧ s0 < 2147483648)) (h : s0 = 0) (k : Ev X 139 21 [fx_f 56, .inl (x1), fx_u, fx_u, fx_u, fx_u, fx_u] [] M r M') : Ev X 139 20 [fx_f 56, .inl (x1), fx_u, fx_u, fx_u, fx_u, fx_u] [.inl (s0)] M r M' := by
  refine Ev.ifF fd_e139 rfl g (decide_eq_false (not_not_intro h)) ?_
  exact k
theorem r139_21 {X : fx_Sc} {M M' : fx_M} {r : Option fx_V} {x1 z : Int} {M1 : fx_M} (hc : Ev X 144 0 [fx_f 56, .inl (x1)] [] M (some (.inl z)) M1) (k : Ev X 139 24 [fx_f 56, .inl (x1), fx_u, fx_u, fx_u, fx_u, fx_u] [.inl (z)] M1 r M') : Ev X 139 21 [fx_f 56, .inl (x1), fx_u, fx_u, fx_u, fx_u, fx_u] [] M r M' := by
  refine Ev.run 2 fd_e139 (i' := 23) (ls' := [fx_f 56, .inl (x1), fx_u, fx_u, fx_u, fx_u, fx_u]) (st' := [.inl (x1), fx_f 56]) (M1 := M) rfl ?_
  refine Ev.callV (vs := [fx_f 56, .inl (x1)]) (rest := []) (r1 := (some (.inl z))) fd_e139 rfl rfl rfl (Nat.le_of_ble_eq_true rfl) (Nat.le_of_ble_eq_true rfl) rfl hc ?_
  exact k
theorem r139_24T {X : fx_Sc} {M M' : fx_M} {r : Option fx_V} {x1 s0 : Int} (g : (-2147483648 ≤ s0 ∧ s0 < 2147483648)) (h : s0 ≠ 0) (k : Ev X 139 31 [fx_f 56, .inl (x1), fx_u, fx_u, fx_u, fx_u, fx_u] [] M r M') : Ev X 139 24 [fx_f 56, .inl (x1), fx_u, fx_u, fx_u, fx_u, fx_u] [.inl (s0)] M r M' := by
  refine Ev.ifT fd_e139 rfl g (decide_eq_true h) ?_
  exact k
theorem r139_24F {X : fx_Sc} {M M' : fx_M} {r : Option fx_V} {x1 s0 : Int} (g : (-2147483648 ≤ s0 ∧ s0 < 2147483648)) (h : s0 = 0) (k : Ev X 139 25 [fx_f 56, .inl (x1), fx_u, fx_u, fx_u, fx_u, fx_u] [] M r M') : Ev X 139 24 [fx_f 56, .inl (x1), fx_u, fx_u, fx_u, fx_u, fx_u] [.inl (s0)] M r M' := by
  refine Ev.ifF fd_e139 rfl g (decide_eq_false (not_not_intro h)) ?_
  exact k
theorem r139_25 {X : fx_Sc} {M M' : fx_M} {r : Option fx_V} {x1 z : Int} {M1 : fx_M} (hc : Ev X 145 0 [fx_f 56, .inl (x1)] [] M (some (.inl z)) M1) (k : Ev X 139 28 [fx_f 56, .inl (x1), fx_u, fx_u, fx_u, fx_u, fx_u] [.inl (z)] M1 r M') : Ev X 139 25 [fx_f 56, .inl (x1), fx_u, fx_u, fx_u, fx_u, fx_u] [] M r M' := by
  refine Ev.run 2 fd_e139 (i' := 27) (ls' := [fx_f 56, .inl (x1), fx_u, fx_u, fx_u, fx_u, fx_u]) (st' := [.inl (x1), fx_f 56]) (M1 := M) rfl ?_
  refine Ev.callV (vs := [fx_f 56, .inl (x1)]) (rest := []) (r1 := (some (.inl z))) fd_e139 rfl rfl rfl (Nat.le_of_ble_eq_true rfl) (Nat.le_of_ble_eq_true rfl) rfl hc ?_
  exact k
theorem r139_28T {X : fx_Sc} {M M' : fx_M} {r : Option fx_V} {x1 s0 : Int} (g : (-2147483648 ≤ s0 ∧ s0 < 2147483648)) (h : s0 ≠ 0) (k : Ev X 139 31 [fx_f 56, .inl (x1), fx_u, fx_u, fx_u, fx_u, fx_u] [] M r M') : Ev X 139 28 [fx_f 56, .inl (x1), fx_u, fx_u, fx_u, fx_u, fx_u] [.inl (s0)] M r M' := by
  refine Ev.ifT fd_e139 rfl g (decide_eq_true h) ?_
  exact k
theorem r139_28F {X : fx_Sc} {M M' : fx_M} {r : Option fx_V} {x1 s0 : Int} (g : (-2147483648 ≤ s0 ∧ s0 < 2147483648)) (h : s0 = 0) (k : Ev X 139 29 [fx_f 56, .inl (x1), fx_u, fx_u, fx_u, fx_u, fx_u] [] M r M') : Ev X 139 28 [fx_f 56, .inl (x1), fx_u, fx_u, fx_u, fx_u, fx_u] [.inl (s0)] M r M' := by
  refine Ev.ifF fd_e139 rfl g (decide_eq_false (not_not_intro h)) ?_
  exact k
theorem r139_29 {X : fx_Sc} {M : fx_M} {x1 : Int} : Ev X 139 29 [fx_f 56, .inl (x1), fx_u, fx_u, fx_u, fx_u, fx_u] [] M (some (.inl (0))) M := by
  refine Ev.run 1 fd_e139 (i' := 30) (ls' := [fx_f 56, .inl (x1), fx_u, fx_u, fx_u, fx_u, fx_u]) (st' := [.inl (0)]) (M1 := M) rfl ?_
  exact Ev.ret2 fd_e139 rfl rfl (by decide)
theorem r139_31 {X : fx_Sc} {M M' : fx_M} {r : Option fx_V} {x1 z : Int} {M1 : fx_M} (hc : Ev X 141 0 [fx_f 56, .inl (x1)] [] (fx_set M 56 (fx_up (M 56) 18 ((M 56 18) + 1))) (some (.inl z)) M1) (k : Ev X 139 42 [fx_f 56, .inl (x1), fx_u, fx_u, fx_u, fx_u, fx_u] [.inl (z), .inl (124), fx_f 56] M1 r M') : Ev X 139 31 [fx_f 56, .inl (x1), fx_u, fx_u, fx_u, fx_u, fx_u] [] M r M' := by
  refine Ev.run 10 fd_e139 (i' := 41) (ls' := [fx_f 56, .inl (x1), fx_u, fx_u, fx_u, fx_u, fx_u]) (st' := [.inl (x1), fx_f 56, .inl (124), fx_f 56]) (M1 := (fx_set M 56 (fx_up (M 56) 18 ((M 56 18) + 1)))) rfl ?_
  refine Ev.callV (vs := [fx_f 56, .inl (x1)]) (rest := [.inl (124), fx_f 56]) (r1 := (some (.inl z))) fd_e139 rfl rfl rfl (Nat.le_of_ble_eq_true rfl) (Nat.le_of_ble_eq_true rfl) rfl hc ?_
  exact k
theorem r139_42 {X : fx_Sc} {M M' : fx_M} {r : Option fx_V} {x1 s1 s2 z : Int} {M1 : fx_M} (hc : Ev X 146 0 [fx_f 56, .inl (s1), .inl (s2), fx_u] [] M (some (.inl z)) M1) (k : Ev X 139 43 [fx_f 56, .inl (x1), fx_u, fx_u, fx_u, fx_u, fx_u] [.inl (z)] M1 r M') : Ev X 139 42 [fx_f 56, .inl (x1), fx_u, fx_u, fx_u, fx_u, fx_u] [.inl (s2), .inl (s1), fx_f 56] M r M' := by
  refine Ev.callV (vs := [fx_f 56, .inl (s1), .inl (s2)]) (rest := []) (r1 := (some (.inl z))) fd_e139 rfl rfl rfl (Nat.le_of_ble_eq_true rfl) (Nat.le_of_ble_eq_true rfl) rfl hc ?_
  exact k
theorem r139_43T {X : fx_Sc} {M M' : fx_M} {r : Option fx_V} {x1 s0 : Int} (g : (-2147483648 ≤ s0 ∧ s0 < 2147483648)) (h : s0 ≠ 0) (k : Ev X 139 55 [fx_f 56, .inl (x1), .inl (s0), fx_u, fx_u, fx_u, fx_u] [] M r M') : Ev X 139 43 [fx_f 56, .inl (x1), fx_u, fx_u, fx_u, fx_u, fx_u] [.inl (s0)] M r M' := by
  refine Ev.run 2 fd_e139 (i' := 45) (ls' := [fx_f 56, .inl (x1), .inl (s0), fx_u, fx_u, fx_u, fx_u]) (st' := [.inl (s0)]) (M1 := M) rfl ?_
  refine Ev.ifT fd_e139 rfl g (decide_eq_true h) ?_
  exact k
theorem r139_43F {X : fx_Sc} {M M' : fx_M} {r : Option fx_V} {x1 s0 : Int} (g : (-2147483648 ≤ s0 ∧ s0 < 2147483648)) (h : s0 = 0) (k : Ev X 139 46 [fx_f 56, .inl (x1), .inl (s0), fx_u, fx_u, fx_u, fx_u] [] M r M') : Ev X 139 43 [fx_f 56, .inl (x1), fx_u, fx_u, fx_u, fx_u, fx_u] [.inl (s0)] M r M' := by
  refine Ev.run 2 fd_e139 (i' := 45) (ls' := [fx_f 56, .inl (x1), .inl (s0), fx_u, fx_u, fx_u, fx_u]) (st' := [.inl (s0)]) (M1 := M) rfl ?_
  refine Ev.ifF fd_e139 rfl g (decide_eq_false (not_not_intro h)) ?_
  exact k
theorem r139_46 {X : fx_Sc} {M M' : fx_M} {r : Option fx_V} {x1 x2 z : Int} {M1 : fx_M} (hc : Ev X 144 0 [fx_f 56, .inl (x1)] [] M (some (.inl z)) M1) (k : Ev X 139 51 [fx_f 56, .inl (x1), .inl (x2), fx_u, fx_u, fx_u, fx_u] [.inl (z), .inl (94), fx_f 56] M1 r M') : Ev X 139 46 [fx_f 56, .inl (x1), .inl (x2), fx_u, fx_u, fx_u, fx_u] [] M r M' := by
  refine Ev.run 4 fd_e139 (i' := 50) (ls' := [fx_f 56, .inl (x1), .inl (x2), fx_u, fx_u, fx_u, fx_u]) (st' := [.inl (x1), fx_f 56, .inl (94), fx_f 56]) (M1 := M) rfl ?_
  refine Ev.callV (vs := [fx_f 56, .inl (x1)]) (rest := [.inl (94), fx_f 56]) (r1 := (some (.inl z))) fd_e139 rfl rfl rfl (Nat.le_of_ble_eq_true rfl) (Nat.le_of_ble_eq_true rfl) rfl hc ?_
  exact k
theorem r139_51 {X : fx_Sc} {M M' : fx_M} {r : Option fx_V} {x1 x2 s1 s2 z : Int} {M1 : fx_M} (hc : Ev X 146 0 [fx_f 56, .inl (s1), .inl (s2), fx_u] [] M (some (.inl z)) M1) (k : Ev X 139 52 [fx_f 56, .inl (x1), .inl (x2), fx_u, fx_u, fx_u, fx_u] [.inl (z)] M1 r M') : Ev X 139 51 [fx_f 56, .inl (x1), .inl (x2), fx_u, fx_u, fx_u, fx_u] [.inl (s2), .inl (s1), fx_f 56] M r M' := by
  refine Ev.callV (vs := [fx_f 56, .inl (s1), .inl (s2)]) (rest := []) (r1 := (some (.inl z))) fd_e139 rfl rfl rfl (Nat.le_of_ble_eq_true rfl) (Nat.le_of_ble_eq_true rfl) rfl hc ?_
  exact k
theorem r139_52T {X : fx_Sc} {M M' : fx_M} {r : Option fx_V} {x1 x2 s0 : Int} (g : (-2147483648 ≤ s0 ∧ s0 < 2147483648)) (h : s0 = 0) (k : Ev X 139 55 [fx_f 56, .inl (x1), .inl (x2), fx_u, fx_u, fx_u, fx_u] [] M r M') : Ev X 139 52 [fx_f 56, .inl (x1), .inl (x2), fx_u, fx_u, fx_u, fx_u] [.inl (s0)] M r M' := by
  refine Ev.ifT fd_e139 rfl g (decide_eq_true h) ?_
  exact k
theorem r139_52F {X : fx_Sc} {M M' : fx_M} {r : Option fx_V} {x1 x2 s0 : Int} (g : (-2147483648 ≤ s0 ∧ s0 < 2147483648)) (h : s0 ≠ 0) (k : Ev X 139 53 [fx_f 56, .inl (x1), .inl (x2), fx_u, fx_u, fx_u, fx_u] [] M r M') : Ev X 139 52 [fx_f 56, .inl (x1), .inl (x2), fx_u, fx_u, fx_u, fx_u] [.inl (s0)] M r M' := by
  refine Ev.ifF fd_e139 rfl g (decide_eq_false h) ?_
  exact k
theorem r139_53T {X : fx_Sc} {M M' : fx_M} {r : Option fx_V} {x1 x2 : Int} (g : (-2147483648 ≤ x2 ∧ x2 < 2147483648)) (h : x2 ≠ 0) (k : Ev X 139 70 [fx_f 56, .inl (x1), .inl (x2), .inl (1), fx_u, fx_u, fx_u] [] M r M') : Ev X 139 53 [fx_f 56, .inl (x1), .inl (x2), fx_u, fx_u, fx_u, fx_u] [] M r M' := by
  refine Ev.run 4 fd_e139 (i' := 58) (ls' := [fx_f 56, .inl (x1), .inl (x2), .inl (1), fx_u, fx_u, fx_u]) (st' := [.inl (x2)]) (M1 := M) rfl ?_
  refine Ev.ifT fd_e139 rfl g (decide_eq_true h) ?_
  exact k
theorem r139_53F {X : fx_Sc} {M M' : fx_M} {r : Option fx_V} {x1 x2 : Int} (g : (-2147483648 ≤ x2 ∧ x2 < 2147483648)) (h : x2 = 0) (k : Ev X 139 59 [fx_f 56, .inl (x1), .inl (x2), .inl (1), fx_u, fx_u, fx_u] [] M r M') : Ev X 139 53 [fx_f 56, .inl (x1), .inl (x2), fx_u, fx_u, fx_u, fx_u] [] M r M' := by
  refine Ev.run 4 fd_e139 (i' := 58) (ls' := [fx_f 56, .inl (x1), .inl (x2), .inl (1), fx_u, fx_u, fx_u]) (st' := [.inl (x2)]) (M1 := M) rfl ?_
  refine Ev.ifF fd_e139 rfl g (decide_eq_false (not_not_intro h)) ?_
  exact k
theorem r139_55T {X : fx_Sc} {M M' : fx_M} {r : Option fx_V} {x1 x2 : Int} (g : (-2147483648 ≤ x2 ∧ x2 < 2147483648)) (h : x2 ≠ 0) (k : Ev X 139 70 [fx_f 56, .inl (x1), .inl (x2), .inl (0), fx_u, fx_u, fx_u] [] M r M') : Ev X 139 55 [fx_f 56, .inl (x1), .inl (x2), fx_u, fx_u, fx_u, fx_u] [] M r M' := by
  refine Ev.run 3 fd_e139 (i' := 58) (ls' := [fx_f 56, .inl (x1), .inl (x2), .inl (0), fx_u, fx_u, fx_u]) (st' := [.inl (x2)]) (M1 := M) rfl ?_
  refine Ev.ifT fd_e139 rfl g (decide_eq_true h) ?_
  exact k
theorem r139_55F {X : fx_Sc} {M M' : fx_M} {r : Option fx_V} {x1 x2 : Int} (g : (-2147483648 ≤ x2 ∧ x2 < 2147483648)) (h : x2 = 0) (k : Ev X 139 59 [fx_f 56, .inl (x1), .inl (x2), .inl (0), fx_u, fx_u, fx_u] [] M r M') : Ev X 139 55 [fx_f 56, .inl (x1), .inl (x2), fx_u, fx_u, fx_u, fx_u] [] M r M' := by
  refine Ev.run 3 fd_e139 (i' := 58) (ls' := [fx_f 56, .inl (x1), .inl (x2), .inl (0), fx_u, fx_u, fx_u]) (st' := [.inl (x2)]) (M1 := M) rfl ?_
  refine Ev.ifF fd_e139 rfl g (decide_eq_false (not_not_intro h)) ?_
  exact k
theorem r139_59T {X : fx_Sc} {M M' : fx_M} {r : Option fx_V} {x1 x2 x3 : Int} (g : (-2147483648 ≤ x3 ∧ x3 < 2147483648)) (h : x3 ≠ 0) (k : Ev X 139 70 [fx_f 56, .inl (x1), .inl (x2), .inl (x3), fx_u, fx_u, fx_u] [] M r M') : Ev X 139 59 [fx_f 56, .inl (x1), .inl (x2), .inl (x3), fx_u, fx_u, fx_u] [] M r M' := by
  refine Ev.run 1 fd_e139 (i' := 60) (ls' := [fx_f 56, .inl (x1), .inl (x2), .inl (x3), fx_u, fx_u, fx_u]) (st' := [.inl (x3)]) (M1 := M) rfl ?_
  refine Ev.ifT fd_e139 rfl g (decide_eq_true h) ?_
  exact k
theorem r139_59F {X : fx_Sc} {M M' : fx_M} {r : Option fx_V} {x1 x2 x3 : Int} (g : (-2147483648 ≤ x3 ∧ x3 < 2147483648)) (h : x3 = 0) (k : Ev X 139 61 [fx_f 56, .inl (x1), .inl (x2), .inl (x3), fx_u, fx_u, fx_u] [] M r M') : Ev X 139 59 [fx_f 56, .inl (x1), .inl (x2), .inl (x3), fx_u, fx_u, fx_u] [] M r M' := by
  refine Ev.run 1 fd_e139 (i' := 60) (ls' := [fx_f 56, .inl (x1), .inl (x2), .inl (x3), fx_u, fx_u, fx_u]) (st' := [.inl (x3)]) (M1 := M) rfl ?_
  refine Ev.ifF fd_e139 rfl g (decide_eq_false (not_not_intro h)) ?_
  exact k
theorem r139_61 {X : fx_Sc} {M M' : fx_M} {r : Option fx_V} {x1 x2 x3 z : Int} {M1 : fx_M} (hc : Ev X 145 0 [fx_f 56, .inl (x1)] [] M (some (.inl z)) M1) (k : Ev X 139 66 [fx_f 56, .inl (x1), .inl (x2), .inl (x3), fx_u, fx_u, fx_u] [.inl (z), .inl (95), fx_f 56] M1 r M') : Ev X 139 61 [fx_f 56, .inl (x1), .inl (x2), .inl (x3), fx_u, fx_u, fx_u] [] M r M' := by
  refine Ev.run 4 fd_e139 (i' := 65) (ls' := [fx_f 56, .inl (x1), .inl (x2), .inl (x3), fx_u, fx_u, fx_u]) (st' := [.inl (x1), fx_f 56, .inl (95), fx_f 56]) (M1 := M) rfl ?_
  refine Ev.callV (vs := [fx_f 56, .inl (x1)]) (rest := [.inl (95), fx_f 56]) (r1 := (some (.inl z))) fd_e139 rfl rfl rfl (Nat.le_of_ble_eq_true rfl) (Nat.le_of_ble_eq_true rfl) rfl hc ?_
  exact k
theorem r139_66 {X : fx_Sc} {M M' : fx_M} {r : Option fx_V} {x1 x2 x3 s1 s2 z : Int} {M1 : fx_M} (hc : Ev X 146 0 [fx_f 56, .inl (s1), .inl (s2), fx_u] [] M (some (.inl z)) M1) (k : Ev X 139 67 [fx_f 56, .inl (x1), .inl (x2), .inl (x3), fx_u, fx_u, fx_u] [.inl (z)] M1 r M') : Ev X 139 66 [fx_f 56, .inl (x1), .inl (x2), .inl (x3), fx_u, fx_u, fx_u] [.inl (s2), .inl (s1), fx_f 56] M r M' := by
  refine Ev.callV (vs := [fx_f 56, .inl (s1), .inl (s2)]) (rest := []) (r1 := (some (.inl z))) fd_e139 rfl rfl rfl (Nat.le_of_ble_eq_true rfl) (Nat.le_of_ble_eq_true rfl) rfl hc ?_
  exact k
theorem r139_67T {X : fx_Sc} {M M' : fx_M} {r : Option fx_V} {x1 x2 x3 s0 : Int} (g : (-2147483648 ≤ s0 ∧ s0 < 2147483648)) (h : s0 = 0) (k : Ev X 139 70 [fx_f 56, .inl (x1), .inl (x2), .inl (x3), fx_u, fx_u, fx_u] [] M r M') : Ev X 139 67 [fx_f 56, .inl (x1), .inl (x2), .inl (x3), fx_u, fx_u, fx_u] [.inl (s0)] M r M' := by
  refine Ev.ifT fd_e139 rfl g (decide_eq_true h) ?_
  exact k
theorem r139_67F {X : fx_Sc} {M M' : fx_M} {r : Option fx_V} {x1 x2 x3 s0 : Int} (g : (-2147483648 ≤ s0 ∧ s0 < 2147483648)) (h : s0 ≠ 0) (k : Ev X 139 68 [fx_f 56, .inl (x1), .inl (x2), .inl (x3), fx_u, fx_u, fx_u] [] M r M') : Ev X 139 67 [fx_f 56, .inl (x1), .inl (x2), .inl (x3), fx_u, fx_u, fx_u] [.inl (s0)] M r M' := by
  refine Ev.ifF fd_e139 rfl g (decide_eq_false h) ?_
  exact k
theorem r139_68T {X : fx_Sc} {M M' : fx_M} {r : Option fx_V} {x1 x2 x3 : Int} (g : (-2147483648 ≤ x2 ∧ x2 < 2147483648)) (h : x2 ≠ 0) (k : Ev X 139 80 [fx_f 56, .inl (x1), .inl (x2), .inl (x3), .inl (1), fx_u, fx_u] [] M r M') : Ev X 139 68 [fx_f 56, .inl (x1), .inl (x2), .inl (x3), fx_u, fx_u, fx_u] [] M r M' := by
  refine Ev.run 4 fd_e139 (i' := 73) (ls' := [fx_f 56, .inl (x1), .inl (x2), .inl (x3), .inl (1), fx_u, fx_u]) (st' := [.inl (x2)]) (M1 := M) rfl ?_
  refine Ev.ifT fd_e139 rfl g (decide_eq_true h) ?_
  exact k
theorem r139_68F {X : fx_Sc} {M M' : fx_M} {r : Option fx_V} {x1 x2 x3 : Int} (g : (-2147483648 ≤ x2 ∧ x2 < 2147483648)) (h : x2 = 0) (k : Ev X 139 74 [fx_f 56, .inl (x1), .inl (x2), .inl (x3), .inl (1), fx_u, fx_u] [] M r M') : Ev X 139 68 [fx_f 56, .inl (x1), .inl (x2), .inl (x3), fx_u, fx_u, fx_u] [] M r M' := by
  refine Ev.run 4 fd_e139 (i' := 73) (ls' := [fx_f 56, .inl (x1), .inl (x2), .inl (x3), .inl (1), fx_u, fx_u]) (st' := [.inl (x2)]) (M1 := M) rfl ?_
  refine Ev.ifF fd_e139 rfl g (decide_eq_false (not_not_intro h)) ?_
  exact k
theorem r139_70T {X : fx_Sc} {M M' : fx_M} {r : Option fx_V} {x1 x2 x3 : Int} (g : (-2147483648 ≤ x2 ∧ x2 < 2147483648)) (h : x2 ≠ 0) (k : Ev X 139 80 [fx_f 56, .inl (x1), .inl (x2), .inl (x3), .inl (0), fx_u, fx_u] [] M r M') : Ev X 139 70 [fx_f 56, .inl (x1), .inl (x2), .inl (x3), fx_u, fx_u, fx_u] [] M r M' := by
  refine Ev.run 3 fd_e139 (i' := 73) (ls' := [fx_f 56, .inl (x1), .inl (x2), .inl (x3), .inl (0), fx_u, fx_u]) (st' := [.inl (x2)]) (M1 := M) rfl ?_
  refine Ev.ifT fd_e139 rfl g (decide_eq_true h) ?_
  exact k
theorem r139_70F {X : fx_Sc} {M M' : fx_M} {r : Option fx_V} {x1 x2 x3 : Int} (g : (-2147483648 ≤ x2 ∧ x2 < 2147483648)) (h : x2 = 0) (k : Ev X 139 74 [fx_f 56, .inl (x1), .inl (x2), .inl (x3), .inl (0), fx_u, fx_u] [] M r M') : Ev X 139 70 [fx_f 56, .inl (x1), .inl (x2), .inl (x3), fx_u, fx_u, fx_u] [] M r M' := by
  refine Ev.run 3 fd_e139 (i' := 73) (ls' := [fx_f 56, .inl (x1), .inl (x2), .inl (x3), .inl (0), fx_u, fx_u]) (st' := [.inl (x2)]) (M1 := M) rfl ?_
  refine Ev.ifF fd_e139 rfl g (decide_eq_false (not_not_intro h)) ?_
  exact k
theorem r139_74T {X : fx_Sc} {M M' : fx_M} {r : Option fx_V} {x1 x2 x3 x4 : Int} (g : (-2147483648 ≤ x3 ∧ x3 < 2147483648)) (h : x3 ≠ 0) (k : Ev X 139 80 [fx_f 56, .inl (x1), .inl (x2), .inl (x3), .inl (x4), fx_u, fx_u] [] M r M') : Ev X 139 74 [fx_f 56, .inl (x1), .inl (x2), .inl (x3), .inl (x4), fx_u, fx_u] [] M r M' := by
  refine Ev.run 1 fd_e139 (i' := 75) (ls' := [fx_f 56, .inl (x1), .inl (x2), .inl (x3), .inl (x4), fx_u, fx_u]) (st' := [.inl (x3)]) (M1 := M) rfl ?_
  refine Ev.ifT fd_e139 rfl g (decide_eq_true h) ?_
  exact k
theorem r139_74F {X : fx_Sc} {M M' : fx_M} {r : Option fx_V} {x1 x2 x3 x4 : Int} (g : (-2147483648 ≤ x3 ∧ x3 < 2147483648)) (h : x3 = 0) (k : Ev X 139 76 [fx_f 56, .inl (x1), .inl (x2), .inl (x3), .inl (x4), fx_u, fx_u] [] M r M') : Ev X 139 74 [fx_f 56, .inl (x1), .inl (x2), .inl (x3), .inl (x4), fx_u, fx_u] [] M r M' := by
  refine Ev.run 1 fd_e139 (i' := 75) (ls' := [fx_f 56, .inl (x1), .inl (x2), .inl (x3), .inl (x4), fx_u, fx_u]) (st' := [.inl (x3)]) (M1 := M) rfl ?_
  refine Ev.ifF fd_e139 rfl g (decide_eq_false (not_not_intro h)) ?_
  exact k
theorem r139_76T {X : fx_Sc} {M M' : fx_M} {r : Option fx_V} {x1 x2 x3 x4 : Int} (g : (-2147483648 ≤ x4 ∧ x4 < 2147483648)) (h : x4 ≠ 0) (k : Ev X 139 80 [fx_f 56, .inl (x1), .inl (x2), .inl (x3), .inl (x4), fx_u, fx_u] [] M r M') : Ev X 139 76 [fx_f 56, .inl (x1), .inl (x2), .inl (x3), .inl (x4), fx_u, fx_u] [] M r M' := by
  refine Ev.run 1 fd_e139 (i' := 77) (ls' := [fx_f 56, .inl (x1), .inl (x2), .inl (x3), .inl (x4), fx_u, fx_u]) (st' := [.inl (x4)]) (M1 := M) rfl ?_
  refine Ev.ifT fd_e139 rfl g (decide_eq_true h) ?_
  exact k
theorem r139_76F {X : fx_Sc} {M M' : fx_M} {r : Option fx_V} {x1 x2 x3 x4 : Int} (g : (-2147483648 ≤ x4 ∧ x4 < 2147483648)) (h : x4 = 0) (k : Ev X 139 78 [fx_f 56, .inl (x1), .inl (x2), .inl (x3), .inl (x4), fx_u, fx_u] [] M r M') : Ev X 139 76 [fx_f 56, .inl (x1), .inl (x2), .inl (x3), .inl (x4), fx_u, fx_u] [] M r M' := by
  refine Ev.run 1 fd_e139 (i' := 77) (ls' := [fx_f 56, .inl (x1), .inl (x2), .inl (x3), .inl (x4), fx_u, fx_u]) (st' := [.inl (x4)]) (M1 := M) rfl ?_
  refine Ev.ifF fd_e139 rfl g (decide_eq_false (not_not_intro h)) ?_
  exact k
theorem r139_78 {X : fx_Sc} {M : fx_M} {x1 x2 x3 x4 : Int} : Ev X 139 78 [fx_f 56, .inl (x1), .inl (x2), .inl (x3), .inl (x4), fx_u, fx_u] [] M (some (.inl (0))) M := by
  refine Ev.run 1 fd_e139 (i' := 79) (ls' := [fx_f 56, .inl (x1), .inl (x2), .inl (x3), .inl (x4), fx_u, fx_u]) (st' := [.inl (0)]) (M1 := M) rfl ?_
  exact Ev.ret2 fd_e139 rfl rfl (by decide)
theorem r139_80T {X : fx_Sc} {M M' : fx_M} {r : Option fx_V} {x1 x2 x3 x4 : Int} (g : (-2147483648 ≤ x4 ∧ x4 < 2147483648)) (h : x4 = 0) (k : Ev X 139 86 [fx_f 56, .inl (x1), .inl (x2), .inl (x3), .inl (x4), fx_u, fx_u] [] M r M') : Ev X 139 80 [fx_f 56, .inl (x1), .inl (x2), .inl (x3), .inl (x4), fx_u, fx_u] [] M r M' := by
  refine Ev.run 1 fd_e139 (i' := 81) (ls' := [fx_f 56, .inl (x1), .inl (x2), .inl (x3), .inl (x4), fx_u, fx_u]) (st' := [.inl (x4)]) (M1 := M) rfl ?_
  refine Ev.ifT fd_e139 rfl g (decide_eq_true h) ?_
  exact k
theorem r139_80F {X : fx_Sc} {M M' : fx_M} {r : Option fx_V} {x1 x2 x3 x4 : Int} (g : (-2147483648 ≤ x4 ∧ x4 < 2147483648)) (h : x4 ≠ 0) (k : Ev X 139 82 [fx_f 56, .inl (x1), .inl (x2), .inl (x3), .inl (x4), fx_u, fx_u] [] M r M') : Ev X 139 80 [fx_f 56, .inl (x1), .inl (x2), .inl (x3), .inl (x4), fx_u, fx_u] [] M r M' := by
  refine Ev.run 1 fd_e139 (i' := 81) (ls' := [fx_f 56, .inl (x1), .inl (x2), .inl (x3), .inl (x4), fx_u, fx_u]) (st' := [.inl (x4)]) (M1 := M) rfl ?_
  refine Ev.ifF fd_e139 rfl g (decide_eq_false h) ?_
  exact k
theorem r139_82 {X : fx_Sc} {M M' : fx_M} {r : Option fx_V} {x1 x2 x3 x4 z : Int} {M1 : fx_M} (hc : Ev X 140 0 [fx_f 56, .inl (97), .inl (108)] [] M (some (.inl z)) M1) (k : Ev X 139 92 [fx_f 56, .inl (x1), .inl (x2), .inl (x3), .inl (x4), .inl ((12 + x1)), fx_u] [.inl (z)] M1 r M') : Ev X 139 82 [fx_f 56, .inl (x1), .inl (x2), .inl (x3), .inl (x4), fx_u, fx_u] [] M r M' := by
  refine Ev.run 8 fd_e139 (i' := 91) (ls' := [fx_f 56, .inl (x1), .inl (x2), .inl (x3), .inl (x4), .inl ((12 + x1)), fx_u]) (st' := [.inl (108), .inl (97), fx_f 56]) (M1 := M) rfl ?_
  refine Ev.callV (vs := [fx_f 56, .inl (97), .inl (108)]) (rest := []) (r1 := (some (.inl z))) fd_e139 rfl rfl rfl (Nat.le_of_ble_eq_true rfl) (Nat.le_of_ble_eq_true rfl) rfl hc ?_
  exact k
theorem r139_86 {X : fx_Sc} {M M' : fx_M} {r : Option fx_V} {x1 x2 x3 x4 z : Int} {M1 : fx_M} (hc : Ev X 140 0 [fx_f 56, .inl (97), .inl (108)] [] M (some (.inl z)) M1) (k : Ev X 139 92 [fx_f 56, .inl (x1), .inl (x2), .inl (x3), .inl (x4), .inl (x1), fx_u] [.inl (z)] M1 r M') : Ev X 139 86 [fx_f 56, .inl (x1), .inl (x2), .inl (x3), .inl (x4), fx_u, fx_u] [] M r M' := by
  refine Ev.run 5 fd_e139 (i' := 91) (ls' := [fx_f 56, .inl (x1), .inl (x2), .inl (x3), .inl (x4), .inl (x1), fx_u]) (st' := [.inl (108), .inl (97), fx_f 56]) (M1 := M) rfl ?_
  refine Ev.callV (vs := [fx_f 56, .inl (97), .inl (108)]) (rest := []) (r1 := (some (.inl z))) fd_e139 rfl rfl rfl (Nat.le_of_ble_eq_true rfl) (Nat.le_of_ble_eq_true rfl) rfl hc ?_
  exact k
theorem r139_92T {X : fx_Sc} {M M' : fx_M} {r : Option fx_V} {x1 x2 x3 x4 x5 s0 : Int} (g : (-2147483648 ≤ s0 ∧ s0 < 2147483648)) (h : s0 = 0) (k : Ev X 139 107 [fx_f 56, .inl (x1), .inl (x2), .inl (x3), .inl (x4), .inl (x5), fx_u] [] M r M') : Ev X 139 92 [fx_f 56, .inl (x1), .inl (x2), .inl (x3), .inl (x4), .inl (x5), fx_u] [.inl (s0)] M r M' := by
  refine Ev.ifT fd_e139 rfl g (decide_eq_true h) ?_
  exact k
theorem r139_92F {X : fx_Sc} {M M' : fx_M} {r : Option fx_V} {x1 x2 x3 x4 x5 s0 : Int} (g : (-2147483648 ≤ s0 ∧ s0 < 2147483648)) (h : s0 ≠ 0) (k : Ev X 139 93 [fx_f 56, .inl (x1), .inl (x2), .inl (x3), .inl (x4), .inl (x5), fx_u] [] M r M') : Ev X 139 92 [fx_f 56, .inl (x1), .inl (x2), .inl (x3), .inl (x4), .inl (x5), fx_u] [.inl (s0)] M r M' := by
  refine Ev.ifF fd_e139 rfl g (decide_eq_false h) ?_
  exact k
theorem r139_93T {X : fx_Sc} {M M' : fx_M} {r : Option fx_V} {x1 x2 x3 x4 x5 : Int} (g : (0 ≤ (M 56 18) ∧ (M 56 18) < ((60 : Nat) : Int)) ∧ (-2147483648 ≤ x3 ∧ x3 < 2147483648)) (h : x3 = 0) (k : Ev X 139 104 [fx_f 56, .inl (x1), .inl (x2), .inl (x3), .inl (x4), .inl (x5), fx_u] [.inl (((M 70 ((M 56 18)).toNat) - 97))] M r M') : Ev X 139 93 [fx_f 56, .inl (x1), .inl (x2), .inl (x3), .inl (x4), .inl (x5), fx_u] [] M r M' := by
  refine Ev.run 4 fd_e139 (i' := 97) (ls' := [fx_f 56, .inl (x1), .inl (x2), .inl (x3), .inl (x4), .inl (x5), fx_u]) (st' := [.inl ((M 56 18)), fx_f 70]) (M1 := M) rfl ?_
  refine Ev.cald fd_e139 rfl rfl (by decide) g.1 ?_
  refine Ev.run 3 fd_e139 (i' := 101) (ls' := [fx_f 56, .inl (x1), .inl (x2), .inl (x3), .inl (x4), .inl (x5), fx_u]) (st' := [.inl (x3), .inl (((M 70 ((M 56 18)).toNat) - 97))]) (M1 := M) rfl ?_
  refine Ev.ifT fd_e139 rfl g.2 (decide_eq_true h) ?_
  exact k
theorem r139_93F {X : fx_Sc} {M M' : fx_M} {r : Option fx_V} {x1 x2 x3 x4 x5 : Int} (g : (0 ≤ (M 56 18) ∧ (M 56 18) < ((60 : Nat) : Int)) ∧ (-2147483648 ≤ x3 ∧ x3 < 2147483648)) (h : x3 ≠ 0) (k : Ev X 139 102 [fx_f 56, .inl (x1), .inl (x2), .inl (x3), .inl (x4), .inl (x5), fx_u] [.inl (((M 70 ((M 56 18)).toNat) - 97))] M r M') : Ev X 139 93 [fx_f 56, .inl (x1), .inl (x2), .inl (x3), .inl (x4), .inl (x5), fx_u] [] M r M' := by
  refine Ev.run 4 fd_e139 (i' := 97) (ls' := [fx_f 56, .inl (x1), .inl (x2), .inl (x3), .inl (x4), .inl (x5), fx_u]) (st' := [.inl ((M 56 18)), fx_f 70]) (M1 := M) rfl ?_
  refine Ev.cald fd_e139 rfl rfl (by decide) g.1 ?_
  refine Ev.run 3 fd_e139 (i' := 101) (ls' := [fx_f 56, .inl (x1), .inl (x2), .inl (x3), .inl (x4), .inl (x5), fx_u]) (st' := [.inl (x3), .inl (((M 70 ((M 56 18)).toNat) - 97))]) (M1 := M) rfl ?_
  refine Ev.ifF fd_e139 rfl g.2 (decide_eq_false h) ?_
  exact k
theorem r139_102T {X : fx_Sc} {M M' : fx_M} {r : Option fx_V} {x1 x2 x3 x4 x5 s0 : Int} (g : (-2147483648 ≤ (s0 + 0) ∧ (s0 + 0) < 2147483648)) (h : (s0 + 0) < 0) (k : Ev X 139 120 [fx_f 56, .inl (x1), .inl (x2), .inl (x3), .inl (x4), .inl (x5), .inl ((s0 + 0))] [] M r M') : Ev X 139 102 [fx_f 56, .inl (x1), .inl (x2), .inl (x3), .inl (x4), .inl (x5), fx_u] [.inl (s0)] M r M' := by
  refine Ev.run 6 fd_e139 (i' := 110) (ls' := [fx_f 56, .inl (x1), .inl (x2), .inl (x3), .inl (x4), .inl (x5), .inl ((s0 + 0))]) (st' := [.inl ((s0 + 0))]) (M1 := M) rfl ?_
  refine Ev.ifT fd_e139 rfl g (decide_eq_true h) ?_
  exact k
theorem r139_102F {X : fx_Sc} {M M' : fx_M} {r : Option fx_V} {x1 x2 x3 x4 x5 s0 : Int} (g : (-2147483648 ≤ (s0 + 0) ∧ (s0 + 0) < 2147483648)) (h : 0 ≤ (s0 + 0)) (k : Ev X 139 111 [fx_f 56, .inl (x1), .inl (x2), .inl (x3), .inl (x4), .inl (x5), .inl ((s0 + 0))] [] M r M') : Ev X 139 102 [fx_f 56, .inl (x1), .inl (x2), .inl (x3), .inl (x4), .inl (x5), fx_u] [.inl (s0)] M r M' := by
  refine Ev.run 6 fd_e139 (i' := 110) (ls' := [fx_f 56, .inl (x1), .inl (x2), .inl (x3), .inl (x4), .inl (x5), .inl ((s0 + 0))]) (st' := [.inl ((s0 + 0))]) (M1 := M) rfl ?_
  refine Ev.ifF fd_e139 rfl g (decide_eq_false (Int.not_lt.mpr h)) ?_
  exact k
theorem r139_104T {X : fx_Sc} {M M' : fx_M} {r : Option fx_V} {x1 x2 x3 x4 x5 s0 : Int} (g : (-2147483648 ≤ (s0 + 12) ∧ (s0 + 12) < 2147483648)) (h : (s0 + 12) < 0) (k : Ev X 139 120 [fx_f 56, .inl (x1), .inl (x2), .inl (x3), .inl (x4), .inl (x5), .inl ((s0 + 12))] [] M r M') : Ev X 139 104 [fx_f 56, .inl (x1), .inl (x2), .inl (x3), .inl (x4), .inl (x5), fx_u] [.inl (s0)] M r M' := by
  refine Ev.run 5 fd_e139 (i' := 110) (ls' := [fx_f 56, .inl (x1), .inl (x2), .inl (x3), .inl (x4), .inl (x5), .inl ((s0 + 12))]) (st' := [.inl ((s0 + 12))]) (M1 := M) rfl ?_
  refine Ev.ifT fd_e139 rfl g (decide_eq_true h) ?_
  exact k
theorem r139_104F {X : fx_Sc} {M M' : fx_M} {r : Option fx_V} {x1 x2 x3 x4 x5 s0 : Int} (g : (-2147483648 ≤ (s0 + 12) ∧ (s0 + 12) < 2147483648)) (h : 0 ≤ (s0 + 12)) (k : Ev X 139 111 [fx_f 56, .inl (x1), .inl (x2), .inl (x3), .inl (x4), .inl (x5), .inl ((s0 + 12))] [] M r M') : Ev X 139 104 [fx_f 56, .inl (x1), .inl (x2), .inl (x3), .inl (x4), .inl (x5), fx_u] [.inl (s0)] M r M' := by
  refine Ev.run 5 fd_e139 (i' := 110) (ls' := [fx_f 56, .inl (x1), .inl (x2), .inl (x3), .inl (x4), .inl (x5), .inl ((s0 + 12))]) (st' := [.inl ((s0 + 12))]) (M1 := M) rfl ?_
  refine Ev.ifF fd_e139 rfl g (decide_eq_false (Int.not_lt.mpr h)) ?_
  exact k
theorem r139_107 {X : fx_Sc} {M : fx_M} {x1 x2 x3 x4 x5 : Int} : Ev X 139 107 [fx_f 56, .inl (x1), .inl (x2), .inl (x3), .inl (x4), .inl (x5), fx_u] [] M (some (.inl (0))) M := by
  refine Ev.run 3 fd_e139 (i' := 110) (ls' := [fx_f 56, .inl (x1), .inl (x2), .inl (x3), .inl (x4), .inl (x5), .inl ((-1))]) (st' := [.inl ((-1))]) (M1 := M) rfl ?_
  refine Ev.ifT fd_e139 rfl (by decide) (by decide) ?_
  refine Ev.run 1 fd_e139 (i' := 121) (ls' := [fx_f 56, .inl (x1), .inl (x2), .inl (x3), .inl (x4), .inl (x5), .inl ((-1))]) (st' := [.inl (0)]) (M1 := M) rfl ?_
  exact Ev.ret2 fd_e139 rfl rfl (by decide)
theorem r139_111 {X : fx_Sc} {M M' : fx_M} {r : Option fx_V} {x1 x2 x3 x4 x5 x6 z : Int} {M1 : fx_M} (hc : Ev X 142 0 [fx_f 56, .inl (x6)] [] M (some (.inl z)) M1) (k : Ev X 139 114 [fx_f 56, .inl (x1), .inl (x2), .inl (x3), .inl (x4), .inl (x5), .inl (x6)] [.inl (z)] M1 r M') : Ev X 139 111 [fx_f 56, .inl (x1), .inl (x2), .inl (x3), .inl (x4), .inl (x5), .inl (x6)] [] M r M' := by
  refine Ev.run 2 fd_e139 (i' := 113) (ls' := [fx_f 56, .inl (x1), .inl (x2), .inl (x3), .inl (x4), .inl (x5), .inl (x6)]) (st' := [.inl (x6), fx_f 56]) (M1 := M) rfl ?_
  refine Ev.callV (vs := [fx_f 56, .inl (x6)]) (rest := []) (r1 := (some (.inl z))) fd_e139 rfl rfl rfl (Nat.le_of_ble_eq_true rfl) (Nat.le_of_ble_eq_true rfl) rfl hc ?_
  exact k
theorem r139_114T {X : fx_Sc} {M M' : fx_M} {r : Option fx_V} {x1 x2 x3 x4 x5 x6 s0 : Int} (g : (-2147483648 ≤ s0 ∧ s0 < 2147483648)) (h : s0 = 0) (k : Ev X 139 120 [fx_f 56, .inl (x1), .inl (x2), .inl (x3), .inl (x4), .inl (x5), .inl (x6)] [] M r M') : Ev X 139 114 [fx_f 56, .inl (x1), .inl (x2), .inl (x3), .inl (x4), .inl (x5), .inl (x6)] [.inl (s0)] M r M' := by
  refine Ev.ifT fd_e139 rfl g (decide_eq_true h) ?_
  exact k
theorem r139_114F {X : fx_Sc} {M M' : fx_M} {r : Option fx_V} {x1 x2 x3 x4 x5 x6 s0 : Int} (g : (-2147483648 ≤ s0 ∧ s0 < 2147483648)) (h : s0 ≠ 0) (k : Ev X 139 115 [fx_f 56, .inl (x1), .inl (x2), .inl (x3), .inl (x4), .inl (x5), .inl (x6)] [] M r M') : Ev X 139 114 [fx_f 56, .inl (x1), .inl (x2), .inl (x3), .inl (x4), .inl (x5), .inl (x6)] [.inl (s0)] M r M' := by
  refine Ev.ifF fd_e139 rfl g (decide_eq_false h) ?_
  exact k
theorem r139_115T {X : fx_Sc} {M M' : fx_M} {r : Option fx_V} {x1 x2 x3 x4 x5 x6 : Int} (g : (-2147483648 ≤ x2 ∧ x2 < 2147483648)) (h : x2 ≠ 0) (k : Ev X 139 122 [fx_f 56, .inl (x1), .inl (x2), .inl (x3), .inl (x4), .inl (x5), .inl (x6)] [] M r M') : Ev X 139 115 [fx_f 56, .inl (x1), .inl (x2), .inl (x3), .inl (x4), .inl (x5), .inl (x6)] [] M r M' := by
  refine Ev.run 1 fd_e139 (i' := 116) (ls' := [fx_f 56, .inl (x1), .inl (x2), .inl (x3), .inl (x4), .inl (x5), .inl (x6)]) (st' := [.inl (x2)]) (M1 := M) rfl ?_
  refine Ev.ifT fd_e139 rfl g (decide_eq_true h) ?_
  exact k
theorem r139_115F {X : fx_Sc} {M M' : fx_M} {r : Option fx_V} {x1 x2 x3 x4 x5 x6 : Int} (g : (-2147483648 ≤ x2 ∧ x2 < 2147483648)) (h : x2 = 0) (k : Ev X 139 117 [fx_f 56, .inl (x1), .inl (x2), .inl (x3), .inl (x4), .inl (x5), .inl (x6)] [] M r M') : Ev X 139 115 [fx_f 56, .inl (x1), .inl (x2), .inl (x3), .inl (x4), .inl (x5), .inl (x6)] [] M r M' := by
  refine Ev.run 1 fd_e139 (i' := 116) (ls' := [fx_f 56, .inl (x1), .inl (x2), .inl (x3), .inl (x4), .inl (x5), .inl (x6)]) (st' := [.inl (x2)]) (M1 := M) rfl ?_
  refine Ev.ifF fd_e139 rfl g (decide_eq_false (not_not_intro h)) ?_
  exact k
theorem r139_117T {X : fx_Sc} {M M' : fx_M} {r : Option fx_V} {x1 x2 x3 x4 x5 x6 : Int} (g : (-2147483648 ≤ x6 ∧ x6 < 2147483648) ∧ (-2147483648 ≤ x5 ∧ x5 < 2147483648)) (h : x5 < x6) (k : Ev X 139 122 [fx_f 56, .inl (x1), .inl (x2), .inl (x3), .inl (x4), .inl (x5), .inl (x6)] [] M r M') : Ev X 139 117 [fx_f 56, .inl (x1), .inl (x2), .inl (x3), .inl (x4), .inl (x5), .inl (x6)] [] M r M' := by
  refine Ev.run 2 fd_e139 (i' := 119) (ls' := [fx_f 56, .inl (x1), .inl (x2), .inl (x3), .inl (x4), .inl (x5), .inl (x6)]) (st' := [.inl (x5), .inl (x6)]) (M1 := M) rfl ?_
  refine Ev.icT fd_e139 rfl g.1 g.2 (decide_eq_true h) ?_
  exact k
theorem r139_117F {X : fx_Sc} {M M' : fx_M} {r : Option fx_V} {x1 x2 x3 x4 x5 x6 : Int} (g : (-2147483648 ≤ x6 ∧ x6 < 2147483648) ∧ (-2147483648 ≤ x5 ∧ x5 < 2147483648)) (h : x6 ≤ x5) (k : Ev X 139 120 [fx_f 56, .inl (x1), .inl (x2), .inl (x3), .inl (x4), .inl (x5), .inl (x6)] [] M r M') : Ev X 139 117 [fx_f 56, .inl (x1), .inl (x2), .inl (x3), .inl (x4), .inl (x5), .inl (x6)] [] M r M' := by
  refine Ev.run 2 fd_e139 (i' := 119) (ls' := [fx_f 56, .inl (x1), .inl (x2), .inl (x3), .inl (x4), .inl (x5), .inl (x6)]) (st' := [.inl (x5), .inl (x6)]) (M1 := M) rfl ?_
  refine Ev.icF fd_e139 rfl g.1 g.2 (decide_eq_false (Int.not_lt.mpr h)) ?_
  exact k
theorem r139_120 {X : fx_Sc} {M : fx_M} {x1 x2 x3 x4 x5 x6 : Int} : Ev X 139 120 [fx_f 56, .inl (x1), .inl (x2), .inl (x3), .inl (x4), .inl (x5), .inl (x6)] [] M (some (.inl (0))) M := by
  refine Ev.run 1 fd_e139 (i' := 121) (ls' := [fx_f 56, .inl (x1), .inl (x2), .inl (x3), .inl (x4), .inl (x5), .inl (x6)]) (st' := [.inl (0)]) (M1 := M) rfl ?_
  exact Ev.ret2 fd_e139 rfl rfl (by decide)
theorem r139_122 {X : fx_Sc} {M : fx_M} {x1 x2 x3 x4 x5 x6 : Int} (g : (0 ≤ (2 * ((fx_set M 56 (fx_up (M 56) 18 ((M 56 18) + 1))) 56 17)) ∧ (2 * ((fx_set M 56 (fx_up (M 56) 18 ((M 56 18) + 1))) 56 17)) < ((32 : Nat) : Int)) ∧ (0 ≤ ((2 * ((fx_set (fx_set M 56 (fx_up (M 56) 18 ((M 56 18) + 1))) 69 (fx_up ((fx_set M 56 (fx_up (M 56) 18 ((M 56 18) + 1))) 69) ((2 * ((fx_set M 56 (fx_up (M 56) 18 ((M 56 18) + 1))) 56 17))).toNat x5)) 56 17)) + 1) ∧ ((2 * ((fx_set (fx_set M 56 (fx_up (M 56) 18 ((M 56 18) + 1))) 69 (fx_up ((fx_set M 56 (fx_up (M 56) 18 ((M 56 18) + 1))) 69) ((2 * ((fx_set M 56 (fx_up (M 56) 18 ((M 56 18) + 1))) 56 17))).toNat x5)) 56 17)) + 1) < ((32 : Nat) : Int))) : Ev X 139 122 [fx_f 56, .inl (x1), .inl (x2), .inl (x3), .inl (x4), .inl (x5), .inl (x6)] [] M (some (.inl (1))) (fx_set (fx_set (fx_set (fx_set (fx_set M 56 (fx_up (M 56) 18 ((M 56 18) + 1))) 69 (fx_up ((fx_set M 56 (fx_up (M 56) 18 ((M 56 18) + 1))) 69) ((2 * ((fx_set M 56 (fx_up (M 56) 18 ((M 56 18) + 1))) 56 17))).toNat x5)) 69 (fx_up ((fx_set (fx_set M 56 (fx_up (M 56) 18 ((M 56 18) + 1))) 69 (fx_up ((fx_set M 56 (fx_up (M 56) 18 ((M 56 18) + 1))) 69) ((2 * ((fx_set M 56 (fx_up (M 56) 18 ((M 56 18) + 1))) 56 17))).toNat x5)) 69) (((2 * ((fx_set (fx_set M 56 (fx_up (M 56) 18 ((M 56 18) + 1))) 69 (fx_up ((fx_set M 56 (fx_up (M 56) 18 ((M 56 18) + 1))) 69) ((2 * ((fx_set M 56 (fx_up (M 56) 18 ((M 56 18) + 1))) 56 17))).toNat x5)) 56 17)) + 1)).toNat x6)) 56 (fx_up ((fx_set (fx_set (fx_set M 56 (fx_up (M 56) 18 ((M 56 18) + 1))) 69 (fx_up ((fx_set M 56 (fx_up (M 56) 18 ((M 56 18) + 1))) 69) ((2 * ((fx_set M 56 (fx_up (M 56) 18 ((M 56 18) + 1))) 56 17))).toNat x5)) 69 (fx_up ((fx_set (fx_set M 56 (fx_up (M 56) 18 ((M 56 18) + 1))) 69 (fx_up ((fx_set M 56 (fx_up (M 56) 18 ((M 56 18) + 1))) 69) ((2 * ((fx_set M 56 (fx_up (M 56) 18 ((M 56 18) + 1))) 56 17))).toNat x5)) 69) (((2 * ((fx_set (fx_set M 56 (fx_up (M 56) 18 ((M 56 18) + 1))) 69 (fx_up ((fx_set M 56 (fx_up (M 56) 18 ((M 56 18) + 1))) 69) ((2 * ((fx_set M 56 (fx_up (M 56) 18 ((M 56 18) + 1))) 56 17))).toNat x5)) 56 17)) + 1)).toNat x6)) 56) 19 (fx_or ((fx_set (fx_set (fx_set M 56 (fx_up (M 56) 18 ((M 56 18) + 1))) 69 (fx_up ((fx_set M 56 (fx_up (M 56) 18 ((M 56 18) + 1))) 69) ((2 * ((fx_set M 56 (fx_up (M 56) 18 ((M 56 18) + 1))) 56 17))).toNat x5)) 69 (fx_up ((fx_set (fx_set M 56 (fx_up (M 56) 18 ((M 56 18) + 1))) 69 (fx_up ((fx_set M 56 (fx_up (M 56) 18 ((M 56 18) + 1))) 69) ((2 * ((fx_set M 56 (fx_up (M 56) 18 ((M 56 18) + 1))) 56 17))).toNat x5)) 69) (((2 * ((fx_set (fx_set M 56 (fx_up (M 56) 18 ((M 56 18) + 1))) 69 (fx_up ((fx_set M 56 (fx_up (M 56) 18 ((M 56 18) + 1))) 69) ((2 * ((fx_set M 56 (fx_up (M 56) 18 ((M 56 18) + 1))) 56 17))).toNat x5)) 56 17)) + 1)).toNat x6)) 56 19) (fx_or (fx_shl 1 x5) (fx_shl 1 x6))))) 56 (fx_up ((fx_set (fx_set (fx_set (fx_set M 56 (fx_up (M 56) 18 ((M 56 18) + 1))) 69 (fx_up ((fx_set M 56 (fx_up (M 56) 18 ((M 56 18) + 1))) 69) ((2 * ((fx_set M 56 (fx_up (M 56) 18 ((M 56 18) + 1))) 56 17))).toNat x5)) 69 (fx_up ((fx_set (fx_set M 56 (fx_up (M 56) 18 ((M 56 18) + 1))) 69 (fx_up ((fx_set M 56 (fx_up (M 56) 18 ((M 56 18) + 1))) 69) ((2 * ((fx_set M 56 (fx_up (M 56) 18 ((M 56 18) + 1))) 56 17))).toNat x5)) 69) (((2 * ((fx_set (fx_set M 56 (fx_up (M 56) 18 ((M 56 18) + 1))) 69 (fx_up ((fx_set M 56 (fx_up (M 56) 18 ((M 56 18) + 1))) 69) ((2 * ((fx_set M 56 (fx_up (M 56) 18 ((M 56 18) + 1))) 56 17))).toNat x5)) 56 17)) + 1)).toNat x6)) 56 (fx_up ((fx_set (fx_set (fx_set M 56 (fx_up (M 56) 18 ((M 56 18) + 1))) 69 (fx_up ((fx_set M 56 (fx_up (M 56) 18 ((M 56 18) + 1))) 69) ((2 * ((fx_set M 56 (fx_up (M 56) 18 ((M 56 18) + 1))) 56 17))).toNat x5)) 69 (fx_up ((fx_set (fx_set M 56 (fx_up (M 56) 18 ((M 56 18) + 1))) 69 (fx_up ((fx_set M 56 (fx_up (M 56) 18 ((M 56 18) + 1))) 69) ((2 * ((fx_set M 56 (fx_up (M 56) 18 ((M 56 18) + 1))) 56 17))).toNat x5)) 69) (((2 * ((fx_set (fx_set M 56 (fx_up (M 56) 18 ((M 56 18) + 1))) 69 (fx_up ((fx_set M 56 (fx_up (M 56) 18 ((M 56 18) + 1))) 69) ((2 * ((fx_set M 56 (fx_up (M 56) 18 ((M 56 18) + 1))) 56 17))).toNat x5)) 56 17)) + 1)).toNat x6)) 56) 19 (fx_or ((fx_set (fx_set (fx_set M 56 (fx_up (M 56) 18 ((M 56 18) + 1))) 69 (fx_up ((fx_set M 56 (fx_up (M 56) 18 ((M 56 18) + 1))) 69) ((2 * ((fx_set M 56 (fx_up (M 56) 18 ((M 56 18) + 1))) 56 17))).toNat x5)) 69 (fx_up ((fx_set (fx_set M 56 (fx_up (M 56) 18 ((M 56 18) + 1))) 69 (fx_up ((fx_set M 56 (fx_up (M 56) 18 ((M 56 18) + 1))) 69) ((2 * ((fx_set M 56 (fx_up (M 56) 18 ((M 56 18) + 1))) 56 17))).toNat x5)) 69) (((2 * ((fx_set (fx_set M 56 (fx_up (M 56) 18 ((M 56 18) + 1))) 69 (fx_up ((fx_set M 56 (fx_up (M 56) 18 ((M 56 18) + 1))) 69) ((2 * ((fx_set M 56 (fx_up (M 56) 18 ((M 56 18) + 1))) 56 17))).toNat x5)) 56 17)) + 1)).toNat x6)) 56 19) (fx_or (fx_shl 1 x5) (fx_shl 1 x6))))) 56) 17 (((fx_set (fx_set (fx_set (fx_set M 56 (fx_up (M 56) 18 ((M 56 18) + 1))) 69 (fx_up ((fx_set M 56 (fx_up (M 56) 18 ((M 56 18) + 1))) 69) ((2 * ((fx_set M 56 (fx_up (M 56) 18 ((M 56 18) + 1))) 56 17))).toNat x5)) 69 (fx_up ((fx_set (fx_set M 56 (fx_up (M 56) 18 ((M 56 18) + 1))) 69 (fx_up ((fx_set M 56 (fx_up (M 56) 18 ((M 56 18) + 1))) 69) ((2 * ((fx_set M 56 (fx_up (M 56) 18 ((M 56 18) + 1))) 56 17))).toNat x5)) 69) (((2 * ((fx_set (fx_set M 56 (fx_up (M 56) 18 ((M 56 18) + 1))) 69 (fx_up ((fx_set M 56 (fx_up (M 56) 18 ((M 56 18) + 1))) 69) ((2 * ((fx_set M 56 (fx_up (M 56) 18 ((M 56 18) + 1))) 56 17))).toNat x5)) 56 17)) + 1)).toNat x6)) 56 (fx_up ((fx_set (fx_set (fx_set M 56 (fx_up (M 56) 18 ((M 56 18) + 1))) 69 (fx_up ((fx_set M 56 (fx_up (M 56) 18 ((M 56 18) + 1))) 69) ((2 * ((fx_set M 56 (fx_up (M 56) 18 ((M 56 18) + 1))) 56 17))).toNat x5)) 69 (fx_up ((fx_set (fx_set M 56 (fx_up (M 56) 18 ((M 56 18) + 1))) 69 (fx_up ((fx_set M 56 (fx_up (M 56) 18 ((M 56 18) + 1))) 69) ((2 * ((fx_set M 56 (fx_up (M 56) 18 ((M 56 18) + 1))) 56 17))).toNat x5)) 69) (((2 * ((fx_set (fx_set M 56 (fx_up (M 56) 18 ((M 56 18) + 1))) 69 (fx_up ((fx_set M 56 (fx_up (M 56) 18 ((M 56 18) + 1))) 69) ((2 * ((fx_set M 56 (fx_up (M 56) 18 ((M 56 18) + 1))) 56 17))).toNat x5)) 56 17)) + 1)).toNat x6)) 56) 19 (fx_or ((fx_set (fx_set (fx_set M 56 (fx_up (M 56) 18 ((M 56 18) + 1))) 69 (fx_up ((fx_set M 56 (fx_up (M 56) 18 ((M 56 18) + 1))) 69) ((2 * ((fx_set M 56 (fx_up (M 56) 18 ((M 56 18) + 1))) 56 17))).toNat x5)) 69 (fx_up ((fx_set (fx_set M 56 (fx_up (M 56) 18 ((M 56 18) + 1))) 69 (fx_up ((fx_set M 56 (fx_up (M 56) 18 ((M 56 18) + 1))) 69) ((2 * ((fx_set M 56 (fx_up (M 56) 18 ((M 56 18) + 1))) 56 17))).toNat x5)) 69) (((2 * ((fx_set (fx_set M 56 (fx_up (M 56) 18 ((M 56 18) + 1))) 69 (fx_up ((fx_set M 56 (fx_up (M 56) 18 ((M 56 18) + 1))) 69) ((2 * ((fx_set M 56 (fx_up (M 56) 18 ((M 56 18) + 1))) 56 17))).toNat x5)) 56 17)) + 1)).toNat x6)) 56 19) (fx_or (fx_shl 1 x5) (fx_shl 1 x6))))) 56 17) + 1))) := by
  refine Ev.run 13 fd_e139 (i' := 135) (ls' := [fx_f 56, .inl (x1), .inl (x2), .inl (x3), .inl (x4), .inl (x5), .inl (x6)]) (st' := [.inl (x5), .inl ((2 * ((fx_set M 56 (fx_up (M 56) 18 ((M 56 18) + 1))) 56 17))), fx_f 69]) (M1 := (fx_set M 56 (fx_up (M 56) 18 ((M 56 18) + 1)))) rfl ?_
  refine Ev.iast fd_e139 rfl rfl (by decide) g.1 ?_
  refine Ev.run 9 fd_e139 (i' := 145) (ls' := [fx_f 56, .inl (x1), .inl (x2), .inl (x3), .inl (x4), .inl (x5), .inl (x6)]) (st' := [.inl (x6), .inl (((2 * ((fx_set (fx_set M 56 (fx_up (M 56) 18 ((M 56 18) + 1))) 69 (fx_up ((fx_set M 56 (fx_up (M 56) 18 ((M 56 18) + 1))) 69) ((2 * ((fx_set M 56 (fx_up (M 56) 18 ((M 56 18) + 1))) 56 17))).toNat x5)) 56 17)) + 1)), fx_f 69]) (M1 := (fx_set (fx_set M 56 (fx_up (M 56) 18 ((M 56 18) + 1))) 69 (fx_up ((fx_set M 56 (fx_up (M 56) 18 ((M 56 18) + 1))) 69) ((2 * ((fx_set M 56 (fx_up (M 56) 18 ((M 56 18) + 1))) 56 17))).toNat x5))) rfl ?_
  refine Ev.iast fd_e139 rfl rfl (by decide) g.2 ?_
  refine Ev.run 19 fd_e139 (i' := 165) (ls' := [fx_f 56, .inl (x1), .inl (x2), .inl (x3), .inl (x4), .inl (x5), .inl (x6)]) (st' := [.inl (1)]) (M1 := (fx_set (fx_set (fx_set (fx_set (fx_set M 56 (fx_up (M 56) 18 ((M 56 18) + 1))) 69 (fx_up ((fx_set M 56 (fx_up (M 56) 18 ((M 56 18) + 1))) 69) ((2 * ((fx_set M 56 (fx_up (M 56) 18 ((M 56 18) + 1))) 56 17))).toNat x5)) 69 (fx_up ((fx_set (fx_set M 56 (fx_up (M 56) 18 ((M 56 18) + 1))) 69 (fx_up ((fx_set M 56 (fx_up (M 56) 18 ((M 56 18) + 1))) 69) ((2 * ((fx_set M 56 (fx_up (M 56) 18 ((M 56 18) + 1))) 56 17))).toNat x5)) 69) (((2 * ((fx_set (fx_set M 56 (fx_up (M 56) 18 ((M 56 18) + 1))) 69 (fx_up ((fx_set M 56 (fx_up (M 56) 18 ((M 56 18) + 1))) 69) ((2 * ((fx_set M 56 (fx_up (M 56) 18 ((M 56 18) + 1))) 56 17))).toNat x5)) 56 17)) + 1)).toNat x6)) 56 (fx_up ((fx_set (fx_set (fx_set M 56 (fx_up (M 56) 18 ((M 56 18) + 1))) 69 (fx_up ((fx_set M 56 (fx_up (M 56) 18 ((M 56 18) + 1))) 69) ((2 * ((fx_set M 56 (fx_up (M 56) 18 ((M 56 18) + 1))) 56 17))).toNat x5)) 69 (fx_up ((fx_set (fx_set M 56 (fx_up (M 56) 18 ((M 56 18) + 1))) 69 (fx_up ((fx_set M 56 (fx_up (M 56) 18 ((M 56 18) + 1))) 69) ((2 * ((fx_set M 56 (fx_up (M 56) 18 ((M 56 18) + 1))) 56 17))).toNat x5)) 69) (((2 * ((fx_set (fx_set M 56 (fx_up (M 56) 18 ((M 56 18) + 1))) 69 (fx_up ((fx_set M 56 (fx_up (M 56) 18 ((M 56 18) + 1))) 69) ((2 * ((fx_set M 56 (fx_up (M 56) 18 ((M 56 18) + 1))) 56 17))).toNat x5)) 56 17)) + 1)).toNat x6)) 56) 19 (fx_or ((fx_set (fx_set (fx_set M 56 (fx_up (M 56) 18 ((M 56 18) + 1))) 69 (fx_up ((fx_set M 56 (fx_up (M 56) 18 ((M 56 18) + 1))) 69) ((2 * ((fx_set M 56 (fx_up (M 56) 18 ((M 56 18) + 1))) 56 17))).toNat x5)) 69 (fx_up ((fx_set (fx_set M 56 (fx_up (M 56) 18 ((M 56 18) + 1))) 69 (fx_up ((fx_set M 56 (fx_up (M 56) 18 ((M 56 18) + 1))) 69) ((2 * ((fx_set M 56 (fx_up (M 56) 18 ((M 56 18) + 1))) 56 17))).toNat x5)) 69) (((2 * ((fx_set (fx_set M 56 (fx_up (M 56) 18 ((M 56 18) + 1))) 69 (fx_up ((fx_set M 56 (fx_up (M 56) 18 ((M 56 18) + 1))) 69) ((2 * ((fx_set M 56 (fx_up (M 56) 18 ((M 56 18) + 1))) 56 17))).toNat x5)) 56 17)) + 1)).toNat x6)) 56 19) (fx_or (fx_shl 1 x5) (fx_shl 1 x6))))) 56 (fx_up ((fx_set (fx_set (fx_set (fx_set M 56 (fx_up (M 56) 18 ((M 56 18) + 1))) 69 (fx_up ((fx_set M 56 (fx_up (M 56) 18 ((M 56 18) + 1))) 69) ((2 * ((fx_set M 56 (fx_up (M 56) 18 ((M 56 18) + 1))) 56 17))).toNat x5)) 69 (fx_up ((fx_set (fx_set M 56 (fx_up (M 56) 18 ((M 56 18) + 1))) 69 (fx_up ((fx_set M 56 (fx_up (M 56) 18 ((M 56 18) + 1))) 69) ((2 * ((fx_set M 56 (fx_up (M 56) 18 ((M 56 18) + 1))) 56 17))).toNat x5)) 69) (((2 * ((fx_set (fx_set M 56 (fx_up (M 56) 18 ((M 56 18) + 1))) 69 (fx_up ((fx_set M 56 (fx_up (M 56) 18 ((M 56 18) + 1))) 69) ((2 * ((fx_set M 56 (fx_up (M 56) 18 ((M 56 18) + 1))) 56 17))).toNat x5)) 56 17)) + 1)).toNat x6)) 56 (fx_up ((fx_set (fx_set (fx_set M 56 (fx_up (M 56) 18 ((M 56 18) + 1))) 69 (fx_up ((fx_set M 56 (fx_up (M 56) 18 ((M 56 18) + 1))) 69) ((2 * ((fx_set M 56 (fx_up (M 56) 18 ((M 56 18) + 1))) 56 17))).toNat x5)) 69 (fx_up ((fx_set (fx_set M 56 (fx_up (M 56) 18 ((M 56 18) + 1))) 69 (fx_up ((fx_set M 56 (fx_up (M 56) 18 ((M 56 18) + 1))) 69) ((2 * ((fx_set M 56 (fx_up (M 56) 18 ((M 56 18) + 1))) 56 17))).toNat x5)) 69) (((2 * ((fx_set (fx_set M 56 (fx_up (M 56) 18 ((M 56 18) + 1))) 69 (fx_up ((fx_set M 56 (fx_up (M 56) 18 ((M 56 18) + 1))) 69) ((2 * ((fx_set M 56 (fx_up (M 56) 18 ((M 56 18) + 1))) 56 17))).toNat x5)) 56 17)) + 1)).toNat x6)) 56) 19 (fx_or ((fx_set (fx_set (fx_set M 56 (fx_up (M 56) 18 ((M 56 18) + 1))) 69 (fx_up ((fx_set M 56 (fx_up (M 56) 18 ((M 56 18) + 1))) 69) ((2 * ((fx_set M 56 (fx_up (M 56) 18 ((M 56 18) + 1))) 56 17))).toNat x5)) 69 (fx_up ((fx_set (fx_set M 56 (fx_up (M 56) 18 ((M 56 18) + 1))) 69 (fx_up ((fx_set M 56 (fx_up (M 56) 18 ((M 56 18) + 1))) 69) ((2 * ((fx_set M 56 (fx_up (M 56) 18 ((M 56 18) + 1))) 56 17))).toNat x5)) 69) (((2 * ((fx_set (fx_set M 56 (fx_up (M 56) 18 ((M 56 18) + 1))) 69 (fx_up ((fx_set M 56 (fx_up (M 56) 18 ((M 56 18) + 1))) 69) ((2 * ((fx_set M 56 (fx_up (M 56) 18 ((M 56 18) + 1))) 56 17))).toNat x5)) 56 17)) + 1)).toNat x6)) 56 19) (fx_or (fx_shl 1 x5) (fx_shl 1 x6))))) 56) 17 (((fx_set (fx_set (fx_set (fx_set M 56 (fx_up (M 56) 18 ((M 56 18) + 1))) 69 (fx_up ((fx_set M 56 (fx_up (M 56) 18 ((M 56 18) + 1))) 69) ((2 * ((fx_set M 56 (fx_up (M 56) 18 ((M 56 18) + 1))) 56 17))).toNat x5)) 69 (fx_up ((fx_set (fx_set M 56 (fx_up (M 56) 18 ((M 56 18) + 1))) 69 (fx_up ((fx_set M 56 (fx_up (M 56) 18 ((M 56 18) + 1))) 69) ((2 * ((fx_set M 56 (fx_up (M 56) 18 ((M 56 18) + 1))) 56 17))).toNat x5)) 69) (((2 * ((fx_set (fx_set M 56 (fx_up (M 56) 18 ((M 56 18) + 1))) 69 (fx_up ((fx_set M 56 (fx_up (M 56) 18 ((M 56 18) + 1))) 69) ((2 * ((fx_set M 56 (fx_up (M 56) 18 ((M 56 18) + 1))) 56 17))).toNat x5)) 56 17)) + 1)).toNat x6)) 56 (fx_up ((fx_set (fx_set (fx_set M 56 (fx_up (M 56) 18 ((M 56 18) + 1))) 69 (fx_up ((fx_set M 56 (fx_up (M 56) 18 ((M 56 18) + 1))) 69) ((2 * ((fx_set M 56 (fx_up (M 56) 18 ((M 56 18) + 1))) 56 17))).toNat x5)) 69 (fx_up ((fx_set (fx_set M 56 (fx_up (M 56) 18 ((M 56 18) + 1))) 69 (fx_up ((fx_set M 56 (fx_up (M 56) 18 ((M 56 18) + 1))) 69) ((2 * ((fx_set M 56 (fx_up (M 56) 18 ((M 56 18) + 1))) 56 17))).toNat x5)) 69) (((2 * ((fx_set (fx_set M 56 (fx_up (M 56) 18 ((M 56 18) + 1))) 69 (fx_up ((fx_set M 56 (fx_up (M 56) 18 ((M 56 18) + 1))) 69) ((2 * ((fx_set M 56 (fx_up (M 56) 18 ((M 56 18) + 1))) 56 17))).toNat x5)) 56 17)) + 1)).toNat x6)) 56) 19 (fx_or ((fx_set (fx_set (fx_set M 56 (fx_up (M 56) 18 ((M 56 18) + 1))) 69 (fx_up ((fx_set M 56 (fx_up (M 56) 18 ((M 56 18) + 1))) 69) ((2 * ((fx_set M 56 (fx_up (M 56) 18 ((M 56 18) + 1))) 56 17))).toNat x5)) 69 (fx_up ((fx_set (fx_set M 56 (fx_up (M 56) 18 ((M 56 18) + 1))) 69 (fx_up ((fx_set M 56 (fx_up (M 56) 18 ((M 56 18) + 1))) 69) ((2 * ((fx_set M 56 (fx_up (M 56) 18 ((M 56 18) + 1))) 56 17))).toNat x5)) 69) (((2 * ((fx_set (fx_set M 56 (fx_up (M 56) 18 ((M 56 18) + 1))) 69 (fx_up ((fx_set M 56 (fx_up (M 56) 18 ((M 56 18) + 1))) 69) ((2 * ((fx_set M 56 (fx_up (M 56) 18 ((M 56 18) + 1))) 56 17))).toNat x5)) 56 17)) + 1)).toNat x6)) 56 19) (fx_or (fx_shl 1 x5) (fx_shl 1 x6))))) 56 17) + 1)))) rfl ?_
  exact Ev.ret2 fd_e139 rfl rfl (by decide)
-- 140: FoldedStripsModel.isSign(CC)Z
theorem fd_e140 : fd_C 140 = fd_c140 := rfl
theorem r140_0T {X : fx_Sc} {M M' : fx_M} {r : Option fx_V} {x1 x2 : Int} (g : (-2147483648 ≤ (M 56 18) ∧ (M 56 18) < 2147483648) ∧ (-2147483648 ≤ (M 56 15) ∧ (M 56 15) < 2147483648)) (h : (M 56 15) ≤ (M 56 18)) (k : Ev X 140 21 [fx_f 56, .inl (x1), .inl (x2)] [] M r M') : Ev X 140 0 [fx_f 56, .inl (x1), .inl (x2)] [] M r M' := by
  refine Ev.run 4 fd_e140 (i' := 4) (ls' := [fx_f 56, .inl (x1), .inl (x2)]) (st' := [.inl ((M 56 15)), .inl ((M 56 18))]) (M1 := M) rfl ?_
  refine Ev.icT fd_e140 rfl g.1 g.2 (decide_eq_true h) ?_
  exact k
theorem r140_0F {X : fx_Sc} {M M' : fx_M} {r : Option fx_V} {x1 x2 : Int} (g : (-2147483648 ≤ (M 56 18) ∧ (M 56 18) < 2147483648) ∧ (-2147483648 ≤ (M 56 15) ∧ (M 56 15) < 2147483648)) (h : (M 56 18) < (M 56 15)) (k : Ev X 140 5 [fx_f 56, .inl (x1), .inl (x2)] [] M r M') : Ev X 140 0 [fx_f 56, .inl (x1), .inl (x2)] [] M r M' := by
  refine Ev.run 4 fd_e140 (i' := 4) (ls' := [fx_f 56, .inl (x1), .inl (x2)]) (st' := [.inl ((M 56 15)), .inl ((M 56 18))]) (M1 := M) rfl ?_
  refine Ev.icF fd_e140 rfl g.1 g.2 (decide_eq_false (Int.not_le.mpr h)) ?_
  exact k
theorem r140_5T {X : fx_Sc} {M M' : fx_M} {r : Option fx_V} {x1 x2 : Int} (g : (0 ≤ (M 56 18) ∧ (M 56 18) < ((60 : Nat) : Int)) ∧ (-2147483648 ≤ (M 70 ((M 56 18)).toNat) ∧ (M 70 ((M 56 18)).toNat) < 2147483648) ∧ (-2147483648 ≤ x1 ∧ x1 < 2147483648)) (h : (M 70 ((M 56 18)).toNat) < x1) (k : Ev X 140 21 [fx_f 56, .inl (x1), .inl (x2)] [] M r M') : Ev X 140 5 [fx_f 56, .inl (x1), .inl (x2)] [] M r M' := by
  refine Ev.run 4 fd_e140 (i' := 9) (ls' := [fx_f 56, .inl (x1), .inl (x2)]) (st' := [.inl ((M 56 18)), fx_f 70]) (M1 := M) rfl ?_
  refine Ev.cald fd_e140 rfl rfl (by decide) g.1 ?_
  refine Ev.run 1 fd_e140 (i' := 11) (ls' := [fx_f 56, .inl (x1), .inl (x2)]) (st' := [.inl (x1), .inl ((M 70 ((M 56 18)).toNat))]) (M1 := M) rfl ?_
  refine Ev.icT fd_e140 rfl g.2.1 g.2.2 (decide_eq_true h) ?_
  exact k
theorem r140_5F {X : fx_Sc} {M M' : fx_M} {r : Option fx_V} {x1 x2 : Int} (g : (0 ≤ (M 56 18) ∧ (M 56 18) < ((60 : Nat) : Int)) ∧ (-2147483648 ≤ (M 70 ((M 56 18)).toNat) ∧ (M 70 ((M 56 18)).toNat) < 2147483648) ∧ (-2147483648 ≤ x1 ∧ x1 < 2147483648)) (h : x1 ≤ (M 70 ((M 56 18)).toNat)) (k : Ev X 140 12 [fx_f 56, .inl (x1), .inl (x2)] [] M r M') : Ev X 140 5 [fx_f 56, .inl (x1), .inl (x2)] [] M r M' := by
  refine Ev.run 4 fd_e140 (i' := 9) (ls' := [fx_f 56, .inl (x1), .inl (x2)]) (st' := [.inl ((M 56 18)), fx_f 70]) (M1 := M) rfl ?_
  refine Ev.cald fd_e140 rfl rfl (by decide) g.1 ?_
  refine Ev.run 1 fd_e140 (i' := 11) (ls' := [fx_f 56, .inl (x1), .inl (x2)]) (st' := [.inl (x1), .inl ((M 70 ((M 56 18)).toNat))]) (M1 := M) rfl ?_
  refine Ev.icF fd_e140 rfl g.2.1 g.2.2 (decide_eq_false (Int.not_lt.mpr h)) ?_
  exact k
theorem r140_12T {X : fx_Sc} {M M' : fx_M} {r : Option fx_V} {x1 x2 : Int} (g : (0 ≤ (M 56 18) ∧ (M 56 18) < ((60 : Nat) : Int)) ∧ (-2147483648 ≤ (M 70 ((M 56 18)).toNat) ∧ (M 70 ((M 56 18)).toNat) < 2147483648) ∧ (-2147483648 ≤ x2 ∧ x2 < 2147483648)) (h : x2 < (M 70 ((M 56 18)).toNat)) (k : Ev X 140 21 [fx_f 56, .inl (x1), .inl (x2)] [] M r M') : Ev X 140 12 [fx_f 56, .inl (x1), .inl (x2)] [] M r M' := by
  refine Ev.run 4 fd_e140 (i' := 16) (ls' := [fx_f 56, .inl (x1), .inl (x2)]) (st' := [.inl ((M 56 18)), fx_f 70]) (M1 := M) rfl ?_
  refine Ev.cald fd_e140 rfl rfl (by decide) g.1 ?_
  refine Ev.run 1 fd_e140 (i' := 18) (ls' := [fx_f 56, .inl (x1), .inl (x2)]) (st' := [.inl (x2), .inl ((M 70 ((M 56 18)).toNat))]) (M1 := M) rfl ?_
  refine Ev.icT fd_e140 rfl g.2.1 g.2.2 (decide_eq_true h) ?_
  exact k
theorem r140_12F {X : fx_Sc} {M M' : fx_M} {r : Option fx_V} {x1 x2 : Int} (g : (0 ≤ (M 56 18) ∧ (M 56 18) < ((60 : Nat) : Int)) ∧ (-2147483648 ≤ (M 70 ((M 56 18)).toNat) ∧ (M 70 ((M 56 18)).toNat) < 2147483648) ∧ (-2147483648 ≤ x2 ∧ x2 < 2147483648)) (h : (M 70 ((M 56 18)).toNat) ≤ x2) (k : Ev X 140 19 [fx_f 56, .inl (x1), .inl (x2)] [] M r M') : Ev X 140 12 [fx_f 56, .inl (x1), .inl (x2)] [] M r M' := by
  refine Ev.run 4 fd_e140 (i' := 16) (ls' := [fx_f 56, .inl (x1), .inl (x2)]) (st' := [.inl ((M 56 18)), fx_f 70]) (M1 := M) rfl ?_
  refine Ev.cald fd_e140 rfl rfl (by decide) g.1 ?_
  refine Ev.run 1 fd_e140 (i' := 18) (ls' := [fx_f 56, .inl (x1), .inl (x2)]) (st' := [.inl (x2), .inl ((M 70 ((M 56 18)).toNat))]) (M1 := M) rfl ?_
  refine Ev.icF fd_e140 rfl g.2.1 g.2.2 (decide_eq_false (Int.not_lt.mpr h)) ?_
  exact k
theorem r140_19 {X : fx_Sc} {M : fx_M} {x1 x2 : Int} : Ev X 140 19 [fx_f 56, .inl (x1), .inl (x2)] [] M (some (.inl (1))) M := by
  refine Ev.run 2 fd_e140 (i' := 22) (ls' := [fx_f 56, .inl (x1), .inl (x2)]) (st' := [.inl (1)]) (M1 := M) rfl ?_
  exact Ev.ret2 fd_e140 rfl rfl (by decide)
theorem r140_21 {X : fx_Sc} {M : fx_M} {x1 x2 : Int} : Ev X 140 21 [fx_f 56, .inl (x1), .inl (x2)] [] M (some (.inl (0))) M := by
  refine Ev.run 1 fd_e140 (i' := 22) (ls' := [fx_f 56, .inl (x1), .inl (x2)]) (st' := [.inl (0)]) (M1 := M) rfl ?_
  exact Ev.ret2 fd_e140 rfl rfl (by decide)
-- 141: FoldedStripsModel.canDown(I)Z
theorem fd_e141 : fd_C 141 = fd_c141 := rfl
theorem r141_0 {X : fx_Sc} {M M' : fx_M} {r : Option fx_V} {x1 z : Int} {M1 : fx_M} (hc : Ev X 142 0 [fx_f 56, .inl (x1)] [] M (some (.inl z)) M1) (k : Ev X 141 3 [fx_f 56, .inl (x1)] [.inl (z)] M1 r M') : Ev X 141 0 [fx_f 56, .inl (x1)] [] M r M' := by
  refine Ev.run 2 fd_e141 (i' := 2) (ls' := [fx_f 56, .inl (x1)]) (st' := [.inl (x1), fx_f 56]) (M1 := M) rfl ?_
  refine Ev.callV (vs := [fx_f 56, .inl (x1)]) (rest := []) (r1 := (some (.inl z))) fd_e141 rfl rfl rfl (Nat.le_of_ble_eq_true rfl) (Nat.le_of_ble_eq_true rfl) rfl hc ?_
  exact k
theorem r141_3T {X : fx_Sc} {M M' : fx_M} {r : Option fx_V} {x1 s0 : Int} (g : (-2147483648 ≤ s0 ∧ s0 < 2147483648)) (h : s0 = 0) (k : Ev X 141 11 [fx_f 56, .inl (x1)] [] M r M') : Ev X 141 3 [fx_f 56, .inl (x1)] [.inl (s0)] M r M' := by
  refine Ev.ifT fd_e141 rfl g (decide_eq_true h) ?_
  exact k
theorem r141_3F {X : fx_Sc} {M M' : fx_M} {r : Option fx_V} {x1 s0 : Int} (g : (-2147483648 ≤ s0 ∧ s0 < 2147483648)) (h : s0 ≠ 0) (k : Ev X 141 4 [fx_f 56, .inl (x1)] [] M r M') : Ev X 141 3 [fx_f 56, .inl (x1)] [.inl (s0)] M r M' := by
  refine Ev.ifF fd_e141 rfl g (decide_eq_false h) ?_
  exact k
theorem r141_4 {X : fx_Sc} {M M' : fx_M} {r : Option fx_V} {x1 z : Int} {M1 : fx_M} (hc : Ev X 143 0 [fx_f 56, .inl (12), .inl (23), fx_u, fx_u] [] M (some (.inl z)) M1) (k : Ev X 141 8 [fx_f 56, .inl (x1)] [.inl (z)] M1 r M') : Ev X 141 4 [fx_f 56, .inl (x1)] [] M r M' := by
  refine Ev.run 3 fd_e141 (i' := 7) (ls' := [fx_f 56, .inl (x1)]) (st' := [.inl (23), .inl (12), fx_f 56]) (M1 := M) rfl ?_
  refine Ev.callV (vs := [fx_f 56, .inl (12), .inl (23)]) (rest := []) (r1 := (some (.inl z))) fd_e141 rfl rfl rfl (Nat.le_of_ble_eq_true rfl) (Nat.le_of_ble_eq_true rfl) rfl hc ?_
  exact k
theorem r141_8T {X : fx_Sc} {M M' : fx_M} {r : Option fx_V} {x1 s0 : Int} (g : (-2147483648 ≤ s0 ∧ s0 < 2147483648)) (h : s0 = 0) (k : Ev X 141 11 [fx_f 56, .inl (x1)] [] M r M') : Ev X 141 8 [fx_f 56, .inl (x1)] [.inl (s0)] M r M' := by
  refine Ev.ifT fd_e141 rfl g (decide_eq_true h) ?_
  exact k
theorem r141_8F {X : fx_Sc} {M M' : fx_M} {r : Option fx_V} {x1 s0 : Int} (g : (-2147483648 ≤ s0 ∧ s0 < 2147483648)) (h : s0 ≠ 0) (k : Ev X 141 9 [fx_f 56, .inl (x1)] [] M r M') : Ev X 141 8 [fx_f 56, .inl (x1)] [.inl (s0)] M r M' := by
  refine Ev.ifF fd_e141 rfl g (decide_eq_false h) ?_
  exact k
theorem r141_9 {X : fx_Sc} {M : fx_M} {x1 : Int} : Ev X 141 9 [fx_f 56, .inl (x1)] [] M (some (.inl (1))) M := by
  refine Ev.run 2 fd_e141 (i' := 12) (ls' := [fx_f 56, .inl (x1)]) (st' := [.inl (1)]) (M1 := M) rfl ?_
  exact Ev.ret2 fd_e141 rfl rfl (by decide)
theorem r141_11 {X : fx_Sc} {M : fx_M} {x1 : Int} : Ev X 141 11 [fx_f 56, .inl (x1)] [] M (some (.inl (0))) M := by
  refine Ev.run 1 fd_e141 (i' := 12) (ls' := [fx_f 56, .inl (x1)]) (st' := [.inl (0)]) (M1 := M) rfl ?_
  exact Ev.ret2 fd_e141 rfl rfl (by decide)
-- 142: FoldedStripsModel.isUnused(I)Z
theorem fd_e142 : fd_C 142 = fd_c142 := rfl
theorem r142_0T {X : fx_Sc} {M M' : fx_M} {r : Option fx_V} {x1 : Int} (g : (-2147483648 ≤ (fx_and (fx_shr (M 56 19) x1) 1) ∧ (fx_and (fx_shr (M 56 19) x1) 1) < 2147483648)) (h : (fx_and (fx_shr (M 56 19) x1) 1) ≠ 0) (k : Ev X 142 9 [fx_f 56, .inl (x1)] [] M r M') : Ev X 142 0 [fx_f 56, .inl (x1)] [] M r M' := by
  refine Ev.run 6 fd_e142 (i' := 6) (ls' := [fx_f 56, .inl (x1)]) (st' := [.inl ((fx_and (fx_shr (M 56 19) x1) 1))]) (M1 := M) rfl ?_
  refine Ev.ifT fd_e142 rfl g (decide_eq_true h) ?_
  exact k
theorem r142_0F {X : fx_Sc} {M M' : fx_M} {r : Option fx_V} {x1 : Int} (g : (-2147483648 ≤ (fx_and (fx_shr (M 56 19) x1) 1) ∧ (fx_and (fx_shr (M 56 19) x1) 1) < 2147483648)) (h : (fx_and (fx_shr (M 56 19) x1) 1) = 0) (k : Ev X 142 7 [fx_f 56, .inl (x1)] [] M r M') : Ev X 142 0 [fx_f 56, .inl (x1)] [] M r M' := by
  refine Ev.run 6 fd_e142 (i' := 6) (ls' := [fx_f 56, .inl (x1)]) (st' := [.inl ((fx_and (fx_shr (M 56 19) x1) 1))]) (M1 := M) rfl ?_
  refine Ev.ifF fd_e142 rfl g (decide_eq_false (not_not_intro h)) ?_
  exact k
theorem r142_7 {X : fx_Sc} {M : fx_M} {x1 : Int} : Ev X 142 7 [fx_f 56, .inl (x1)] [] M (some (.inl (1))) M := by
  refine Ev.run 2 fd_e142 (i' := 10) (ls' := [fx_f 56, .inl (x1)]) (st' := [.inl (1)]) (M1 := M) rfl ?_
  exact Ev.ret2 fd_e142 rfl rfl (by decide)
theorem r142_9 {X : fx_Sc} {M : fx_M} {x1 : Int} : Ev X 142 9 [fx_f 56, .inl (x1)] [] M (some (.inl (0))) M := by
  refine Ev.run 1 fd_e142 (i' := 10) (ls' := [fx_f 56, .inl (x1)]) (st' := [.inl (0)]) (M1 := M) rfl ?_
  exact Ev.ret2 fd_e142 rfl rfl (by decide)
-- 143: FoldedStripsModel.isAnyUnused(II)Z
theorem fd_e143 : fd_C 143 = fd_c143 := rfl
theorem r143_0 {X : fx_Sc} {M M' : fx_M} {r : Option fx_V} {x1 x2 : Int} (k : Ev X 143 4 [fx_f 56, .inl (x1), .inl (x2), .inl (0), .inl (x1)] [] M r M') : Ev X 143 0 [fx_f 56, .inl (x1), .inl (x2), fx_u, fx_u] [] M r M' := by
  refine Ev.run 4 fd_e143 (i' := 4) (ls' := [fx_f 56, .inl (x1), .inl (x2), .inl (0), .inl (x1)]) (st' := []) (M1 := M) rfl ?_
  exact k
theorem r143_4T {X : fx_Sc} {M M' : fx_M} {r : Option fx_V} {x1 x2 x3 x4 : Int} (g : (-2147483648 ≤ x4 ∧ x4 < 2147483648) ∧ (-2147483648 ≤ x2 ∧ x2 < 2147483648)) (h : x2 < x4) (k : Ev X 143 19 [fx_f 56, .inl (x1), .inl (x2), .inl (x3), .inl (x4)] [] M r M') : Ev X 143 4 [fx_f 56, .inl (x1), .inl (x2), .inl (x3), .inl (x4)] [] M r M' := by
  refine Ev.run 2 fd_e143 (i' := 6) (ls' := [fx_f 56, .inl (x1), .inl (x2), .inl (x3), .inl (x4)]) (st' := [.inl (x2), .inl (x4)]) (M1 := M) rfl ?_
  refine Ev.icT fd_e143 rfl g.1 g.2 (decide_eq_true h) ?_
  exact k
theorem r143_4F {X : fx_Sc} {M M' : fx_M} {r : Option fx_V} {x1 x2 x3 x4 : Int} (g : (-2147483648 ≤ x4 ∧ x4 < 2147483648) ∧ (-2147483648 ≤ x2 ∧ x2 < 2147483648)) (h : x4 ≤ x2) (k : Ev X 143 7 [fx_f 56, .inl (x1), .inl (x2), .inl (x3), .inl (x4)] [] M r M') : Ev X 143 4 [fx_f 56, .inl (x1), .inl (x2), .inl (x3), .inl (x4)] [] M r M' := by
  refine Ev.run 2 fd_e143 (i' := 6) (ls' := [fx_f 56, .inl (x1), .inl (x2), .inl (x3), .inl (x4)]) (st' := [.inl (x2), .inl (x4)]) (M1 := M) rfl ?_
  refine Ev.icF fd_e143 rfl g.1 g.2 (decide_eq_false (Int.not_lt.mpr h)) ?_
  exact k
theorem r143_7T {X : fx_Sc} {M M' : fx_M} {r : Option fx_V} {x1 x2 x3 x4 : Int} (g : (-2147483648 ≤ x3 ∧ x3 < 2147483648)) (h : x3 ≠ 0) (k : Ev X 143 13 [fx_f 56, .inl (x1), .inl (x2), .inl (x3), .inl (x4)] [] M r M') : Ev X 143 7 [fx_f 56, .inl (x1), .inl (x2), .inl (x3), .inl (x4)] [] M r M' := by
  refine Ev.run 1 fd_e143 (i' := 8) (ls' := [fx_f 56, .inl (x1), .inl (x2), .inl (x3), .inl (x4)]) (st' := [.inl (x3)]) (M1 := M) rfl ?_
  refine Ev.ifT fd_e143 rfl g (decide_eq_true h) ?_
  exact k
theorem r143_7F {X : fx_Sc} {M M' : fx_M} {r : Option fx_V} {x1 x2 x3 x4 : Int} (g : (-2147483648 ≤ x3 ∧ x3 < 2147483648)) (h : x3 = 0) (k : Ev X 143 9 [fx_f 56, .inl (x1), .inl (x2), .inl (x3), .inl (x4)] [] M r M') : Ev X 143 7 [fx_f 56, .inl (x1), .inl (x2), .inl (x3), .inl (x4)] [] M r M' := by
  refine Ev.run 1 fd_e143 (i' := 8) (ls' := [fx_f 56, .inl (x1), .inl (x2), .inl (x3), .inl (x4)]) (st' := [.inl (x3)]) (M1 := M) rfl ?_
  refine Ev.ifF fd_e143 rfl g (decide_eq_false (not_not_intro h)) ?_
  exact k
theorem r143_9 {X : fx_Sc} {M M' : fx_M} {r : Option fx_V} {x1 x2 x3 x4 z : Int} {M1 : fx_M} (hc : Ev X 142 0 [fx_f 56, .inl (x4)] [] M (some (.inl z)) M1) (k : Ev X 143 12 [fx_f 56, .inl (x1), .inl (x2), .inl (x3), .inl (x4)] [.inl (z)] M1 r M') : Ev X 143 9 [fx_f 56, .inl (x1), .inl (x2), .inl (x3), .inl (x4)] [] M r M' := by
  refine Ev.run 2 fd_e143 (i' := 11) (ls' := [fx_f 56, .inl (x1), .inl (x2), .inl (x3), .inl (x4)]) (st' := [.inl (x4), fx_f 56]) (M1 := M) rfl ?_
  refine Ev.callV (vs := [fx_f 56, .inl (x4)]) (rest := []) (r1 := (some (.inl z))) fd_e143 rfl rfl rfl (Nat.le_of_ble_eq_true rfl) (Nat.le_of_ble_eq_true rfl) rfl hc ?_
  exact k
theorem r143_12T {X : fx_Sc} {M M' : fx_M} {r : Option fx_V} {x1 x2 x3 x4 s0 : Int} (g : (-2147483648 ≤ s0 ∧ s0 < 2147483648)) (h : s0 = 0) (k : Ev X 143 15 [fx_f 56, .inl (x1), .inl (x2), .inl (x3), .inl (x4)] [] M r M') : Ev X 143 12 [fx_f 56, .inl (x1), .inl (x2), .inl (x3), .inl (x4)] [.inl (s0)] M r M' := by
  refine Ev.ifT fd_e143 rfl g (decide_eq_true h) ?_
  exact k
theorem r143_12F {X : fx_Sc} {M M' : fx_M} {r : Option fx_V} {x1 x2 x3 x4 s0 : Int} (g : (-2147483648 ≤ s0 ∧ s0 < 2147483648)) (h : s0 ≠ 0) (k : Ev X 143 13 [fx_f 56, .inl (x1), .inl (x2), .inl (x3), .inl (x4)] [] M r M') : Ev X 143 12 [fx_f 56, .inl (x1), .inl (x2), .inl (x3), .inl (x4)] [.inl (s0)] M r M' := by
  refine Ev.ifF fd_e143 rfl g (decide_eq_false h) ?_
  exact k
theorem r143_13 {X : fx_Sc} {M M' : fx_M} {r : Option fx_V} {x1 x2 x3 x4 : Int} (k : Ev X 143 4 [fx_f 56, .inl (x1), .inl (x2), .inl (1), .inl ((x4 + 1))] [] M r M') : Ev X 143 13 [fx_f 56, .inl (x1), .inl (x2), .inl (x3), .inl (x4)] [] M r M' := by
  refine Ev.run 5 fd_e143 (i' := 4) (ls' := [fx_f 56, .inl (x1), .inl (x2), .inl (1), .inl ((x4 + 1))]) (st' := []) (M1 := M) rfl ?_
  exact k
theorem r143_15 {X : fx_Sc} {M M' : fx_M} {r : Option fx_V} {x1 x2 x3 x4 : Int} (k : Ev X 143 4 [fx_f 56, .inl (x1), .inl (x2), .inl (0), .inl ((x4 + 1))] [] M r M') : Ev X 143 15 [fx_f 56, .inl (x1), .inl (x2), .inl (x3), .inl (x4)] [] M r M' := by
  refine Ev.run 4 fd_e143 (i' := 4) (ls' := [fx_f 56, .inl (x1), .inl (x2), .inl (0), .inl ((x4 + 1))]) (st' := []) (M1 := M) rfl ?_
  exact k
theorem r143_19 {X : fx_Sc} {M : fx_M} {x1 x2 x3 x4 : Int} (g : (x3 = 0 ∨ x3 = 1)) : Ev X 143 19 [fx_f 56, .inl (x1), .inl (x2), .inl (x3), .inl (x4)] [] M (some (.inl (x3))) M := by
  refine Ev.run 1 fd_e143 (i' := 20) (ls' := [fx_f 56, .inl (x1), .inl (x2), .inl (x3), .inl (x4)]) (st' := [.inl (x3)]) (M1 := M) rfl ?_
  exact Ev.ret2 fd_e143 rfl rfl g
-- 144: FoldedStripsModel.canAbove(I)Z
theorem fd_e144 : fd_C 144 = fd_c144 := rfl
theorem r144_0 {X : fx_Sc} {M M' : fx_M} {r : Option fx_V} {x1 z : Int} {M1 : fx_M} (hc : Ev X 142 0 [fx_f 56, .inl (x1)] [] M (some (.inl z)) M1) (k : Ev X 144 3 [fx_f 56, .inl (x1)] [.inl (z)] M1 r M') : Ev X 144 0 [fx_f 56, .inl (x1)] [] M r M' := by
  refine Ev.run 2 fd_e144 (i' := 2) (ls' := [fx_f 56, .inl (x1)]) (st' := [.inl (x1), fx_f 56]) (M1 := M) rfl ?_
  refine Ev.callV (vs := [fx_f 56, .inl (x1)]) (rest := []) (r1 := (some (.inl z))) fd_e144 rfl rfl rfl (Nat.le_of_ble_eq_true rfl) (Nat.le_of_ble_eq_true rfl) rfl hc ?_
  exact k
theorem r144_3T {X : fx_Sc} {M M' : fx_M} {r : Option fx_V} {x1 s0 : Int} (g : (-2147483648 ≤ s0 ∧ s0 < 2147483648)) (h : s0 = 0) (k : Ev X 144 13 [fx_f 56, .inl (x1)] [] M r M') : Ev X 144 3 [fx_f 56, .inl (x1)] [.inl (s0)] M r M' := by
  refine Ev.ifT fd_e144 rfl g (decide_eq_true h) ?_
  exact k
theorem r144_3F {X : fx_Sc} {M M' : fx_M} {r : Option fx_V} {x1 s0 : Int} (g : (-2147483648 ≤ s0 ∧ s0 < 2147483648)) (h : s0 ≠ 0) (k : Ev X 144 4 [fx_f 56, .inl (x1)] [] M r M') : Ev X 144 3 [fx_f 56, .inl (x1)] [.inl (s0)] M r M' := by
  refine Ev.ifF fd_e144 rfl g (decide_eq_false h) ?_
  exact k
theorem r144_4 {X : fx_Sc} {M M' : fx_M} {r : Option fx_V} {x1 z : Int} {M1 : fx_M} (hc : Ev X 143 0 [fx_f 56, .inl ((x1 + 1)), .inl (11), fx_u, fx_u] [] M (some (.inl z)) M1) (k : Ev X 144 10 [fx_f 56, .inl (x1)] [.inl (z)] M1 r M') : Ev X 144 4 [fx_f 56, .inl (x1)] [] M r M' := by
  refine Ev.run 5 fd_e144 (i' := 9) (ls' := [fx_f 56, .inl (x1)]) (st' := [.inl (11), .inl ((x1 + 1)), fx_f 56]) (M1 := M) rfl ?_
  refine Ev.callV (vs := [fx_f 56, .inl ((x1 + 1)), .inl (11)]) (rest := []) (r1 := (some (.inl z))) fd_e144 rfl rfl rfl (Nat.le_of_ble_eq_true rfl) (Nat.le_of_ble_eq_true rfl) rfl hc ?_
  exact k
theorem r144_10T {X : fx_Sc} {M M' : fx_M} {r : Option fx_V} {x1 s0 : Int} (g : (-2147483648 ≤ s0 ∧ s0 < 2147483648)) (h : s0 = 0) (k : Ev X 144 13 [fx_f 56, .inl (x1)] [] M r M') : Ev X 144 10 [fx_f 56, .inl (x1)] [.inl (s0)] M r M' := by
  refine Ev.ifT fd_e144 rfl g (decide_eq_true h) ?_
  exact k
theorem r144_10F {X : fx_Sc} {M M' : fx_M} {r : Option fx_V} {x1 s0 : Int} (g : (-2147483648 ≤ s0 ∧ s0 < 2147483648)) (h : s0 ≠ 0) (k : Ev X 144 11 [fx_f 56, .inl (x1)] [] M r M') : Ev X 144 10 [fx_f 56, .inl (x1)] [.inl (s0)] M r M' := by
  refine Ev.ifF fd_e144 rfl g (decide_eq_false h) ?_
  exact k
theorem r144_11 {X : fx_Sc} {M : fx_M} {x1 : Int} : Ev X 144 11 [fx_f 56, .inl (x1)] [] M (some (.inl (1))) M := by
  refine Ev.run 2 fd_e144 (i' := 14) (ls' := [fx_f 56, .inl (x1)]) (st' := [.inl (1)]) (M1 := M) rfl ?_
  exact Ev.ret2 fd_e144 rfl rfl (by decide)
theorem r144_13 {X : fx_Sc} {M : fx_M} {x1 : Int} : Ev X 144 13 [fx_f 56, .inl (x1)] [] M (some (.inl (0))) M := by
  refine Ev.run 1 fd_e144 (i' := 14) (ls' := [fx_f 56, .inl (x1)]) (st' := [.inl (0)]) (M1 := M) rfl ?_
  exact Ev.ret2 fd_e144 rfl rfl (by decide)
-- 145: FoldedStripsModel.canBelow(I)Z
theorem fd_e145 : fd_C 145 = fd_c145 := rfl
theorem r145_0 {X : fx_Sc} {M M' : fx_M} {r : Option fx_V} {x1 z : Int} {M1 : fx_M} (hc : Ev X 142 0 [fx_f 56, .inl ((12 + x1))] [] M (some (.inl z)) M1) (k : Ev X 145 5 [fx_f 56, .inl (x1)] [.inl (z)] M1 r M') : Ev X 145 0 [fx_f 56, .inl (x1)] [] M r M' := by
  refine Ev.run 4 fd_e145 (i' := 4) (ls' := [fx_f 56, .inl (x1)]) (st' := [.inl ((12 + x1)), fx_f 56]) (M1 := M) rfl ?_
  refine Ev.callV (vs := [fx_f 56, .inl ((12 + x1))]) (rest := []) (r1 := (some (.inl z))) fd_e145 rfl rfl rfl (Nat.le_of_ble_eq_true rfl) (Nat.le_of_ble_eq_true rfl) rfl hc ?_
  exact k
theorem r145_5T {X : fx_Sc} {M M' : fx_M} {r : Option fx_V} {x1 s0 : Int} (g : (-2147483648 ≤ s0 ∧ s0 < 2147483648)) (h : s0 = 0) (k : Ev X 145 17 [fx_f 56, .inl (x1)] [] M r M') : Ev X 145 5 [fx_f 56, .inl (x1)] [.inl (s0)] M r M' := by
  refine Ev.ifT fd_e145 rfl g (decide_eq_true h) ?_
  exact k
theorem r145_5F {X : fx_Sc} {M M' : fx_M} {r : Option fx_V} {x1 s0 : Int} (g : (-2147483648 ≤ s0 ∧ s0 < 2147483648)) (h : s0 ≠ 0) (k : Ev X 145 6 [fx_f 56, .inl (x1)] [] M r M') : Ev X 145 5 [fx_f 56, .inl (x1)] [.inl (s0)] M r M' := by
  refine Ev.ifF fd_e145 rfl g (decide_eq_false h) ?_
  exact k
theorem r145_6 {X : fx_Sc} {M M' : fx_M} {r : Option fx_V} {x1 z : Int} {M1 : fx_M} (hc : Ev X 143 0 [fx_f 56, .inl (((12 + x1) + 1)), .inl (23), fx_u, fx_u] [] M (some (.inl z)) M1) (k : Ev X 145 14 [fx_f 56, .inl (x1)] [.inl (z)] M1 r M') : Ev X 145 6 [fx_f 56, .inl (x1)] [] M r M' := by
  refine Ev.run 7 fd_e145 (i' := 13) (ls' := [fx_f 56, .inl (x1)]) (st' := [.inl (23), .inl (((12 + x1) + 1)), fx_f 56]) (M1 := M) rfl ?_
  refine Ev.callV (vs := [fx_f 56, .inl (((12 + x1) + 1)), .inl (23)]) (rest := []) (r1 := (some (.inl z))) fd_e145 rfl rfl rfl (Nat.le_of_ble_eq_true rfl) (Nat.le_of_ble_eq_true rfl) rfl hc ?_
  exact k
theorem r145_14T {X : fx_Sc} {M M' : fx_M} {r : Option fx_V} {x1 s0 : Int} (g : (-2147483648 ≤ s0 ∧ s0 < 2147483648)) (h : s0 = 0) (k : Ev X 145 17 [fx_f 56, .inl (x1)] [] M r M') : Ev X 145 14 [fx_f 56, .inl (x1)] [.inl (s0)] M r M' := by
  refine Ev.ifT fd_e145 rfl g (decide_eq_true h) ?_
  exact k
theorem r145_14F {X : fx_Sc} {M M' : fx_M} {r : Option fx_V} {x1 s0 : Int} (g : (-2147483648 ≤ s0 ∧ s0 < 2147483648)) (h : s0 ≠ 0) (k : Ev X 145 15 [fx_f 56, .inl (x1)] [] M r M') : Ev X 145 14 [fx_f 56, .inl (x1)] [.inl (s0)] M r M' := by
  refine Ev.ifF fd_e145 rfl g (decide_eq_false h) ?_
  exact k
theorem r145_15 {X : fx_Sc} {M : fx_M} {x1 : Int} : Ev X 145 15 [fx_f 56, .inl (x1)] [] M (some (.inl (1))) M := by
  refine Ev.run 2 fd_e145 (i' := 18) (ls' := [fx_f 56, .inl (x1)]) (st' := [.inl (1)]) (M1 := M) rfl ?_
  exact Ev.ret2 fd_e145 rfl rfl (by decide)
theorem r145_17 {X : fx_Sc} {M : fx_M} {x1 : Int} : Ev X 145 17 [fx_f 56, .inl (x1)] [] M (some (.inl (0))) M := by
  refine Ev.run 1 fd_e145 (i' := 18) (ls' := [fx_f 56, .inl (x1)]) (st' := [.inl (0)]) (M1 := M) rfl ?_
  exact Ev.ret2 fd_e145 rfl rfl (by decide)
-- 146: FoldedStripsModel.accepts(CZ)Z
theorem fd_e146 : fd_C 146 = fd_c146 := rfl
theorem r146_0T {X : fx_Sc} {M M' : fx_M} {r : Option fx_V} {x1 x2 : Int} (g : (-2147483648 ≤ x2 ∧ x2 < 2147483648)) (h : x2 = 0) (k : Ev X 146 9 [fx_f 56, .inl (x1), .inl (x2), fx_u] [] M r M') : Ev X 146 0 [fx_f 56, .inl (x1), .inl (x2), fx_u] [] M r M' := by
  refine Ev.run 1 fd_e146 (i' := 1) (ls' := [fx_f 56, .inl (x1), .inl (x2), fx_u]) (st' := [.inl (x2)]) (M1 := M) rfl ?_
  refine Ev.ifT fd_e146 rfl g (decide_eq_true h) ?_
  exact k
theorem r146_0F {X : fx_Sc} {M M' : fx_M} {r : Option fx_V} {x1 x2 : Int} (g : (-2147483648 ≤ x2 ∧ x2 < 2147483648)) (h : x2 ≠ 0) (k : Ev X 146 2 [fx_f 56, .inl (x1), .inl (x2), fx_u] [] M r M') : Ev X 146 0 [fx_f 56, .inl (x1), .inl (x2), fx_u] [] M r M' := by
  refine Ev.run 1 fd_e146 (i' := 1) (ls' := [fx_f 56, .inl (x1), .inl (x2), fx_u]) (st' := [.inl (x2)]) (M1 := M) rfl ?_
  refine Ev.ifF fd_e146 rfl g (decide_eq_false h) ?_
  exact k
theorem r146_2 {X : fx_Sc} {M M' : fx_M} {r : Option fx_V} {x1 x2 z : Int} {M1 : fx_M} (hc : Ev X 140 0 [fx_f 56, .inl (x1), .inl (x1)] [] M (some (.inl z)) M1) (k : Ev X 146 6 [fx_f 56, .inl (x1), .inl (x2), fx_u] [.inl (z)] M1 r M') : Ev X 146 2 [fx_f 56, .inl (x1), .inl (x2), fx_u] [] M r M' := by
  refine Ev.run 3 fd_e146 (i' := 5) (ls' := [fx_f 56, .inl (x1), .inl (x2), fx_u]) (st' := [.inl (x1), .inl (x1), fx_f 56]) (M1 := M) rfl ?_
  refine Ev.callV (vs := [fx_f 56, .inl (x1), .inl (x1)]) (rest := []) (r1 := (some (.inl z))) fd_e146 rfl rfl rfl (Nat.le_of_ble_eq_true rfl) (Nat.le_of_ble_eq_true rfl) rfl hc ?_
  exact k
theorem r146_6T {X : fx_Sc} {M M' : fx_M} {r : Option fx_V} {x1 x2 s0 : Int} (g : (-2147483648 ≤ s0 ∧ s0 < 2147483648)) (h : s0 = 0) (k : Ev X 146 9 [fx_f 56, .inl (x1), .inl (x2), fx_u] [] M r M') : Ev X 146 6 [fx_f 56, .inl (x1), .inl (x2), fx_u] [.inl (s0)] M r M' := by
  refine Ev.ifT fd_e146 rfl g (decide_eq_true h) ?_
  exact k
theorem r146_6F {X : fx_Sc} {M M' : fx_M} {r : Option fx_V} {x1 x2 s0 : Int} (g : (-2147483648 ≤ s0 ∧ s0 < 2147483648)) (h : s0 ≠ 0) (k : Ev X 146 7 [fx_f 56, .inl (x1), .inl (x2), fx_u] [] M r M') : Ev X 146 6 [fx_f 56, .inl (x1), .inl (x2), fx_u] [.inl (s0)] M r M' := by
  refine Ev.ifF fd_e146 rfl g (decide_eq_false h) ?_
  exact k
theorem r146_7 {X : fx_Sc} {M : fx_M} {x1 x2 : Int} : Ev X 146 7 [fx_f 56, .inl (x1), .inl (x2), fx_u] [] M (some (.inl (1))) (fx_set M 56 (fx_up (M 56) 18 ((M 56 18) + 1))) := by
  refine Ev.run 7 fd_e146 (i' := 15) (ls' := [fx_f 56, .inl (x1), .inl (x2), .inl (1)]) (st' := [.inl (1), .inl ((M 56 18)), fx_f 56]) (M1 := M) rfl ?_
  refine Ev.ifF fd_e146 rfl (by decide) (by decide) ?_
  refine Ev.run 5 fd_e146 (i' := 22) (ls' := [fx_f 56, .inl (x1), .inl (x2), .inl (1)]) (st' := [.inl (1)]) (M1 := (fx_set M 56 (fx_up (M 56) 18 ((M 56 18) + 1)))) rfl ?_
  exact Ev.ret2 fd_e146 rfl rfl (by decide)
theorem r146_9 {X : fx_Sc} {M : fx_M} {x1 x2 : Int} : Ev X 146 9 [fx_f 56, .inl (x1), .inl (x2), fx_u] [] M (some (.inl (0))) (fx_set M 56 (fx_up (M 56) 18 ((M 56 18) + 0))) := by
  refine Ev.run 6 fd_e146 (i' := 15) (ls' := [fx_f 56, .inl (x1), .inl (x2), .inl (0)]) (st' := [.inl (0), .inl ((M 56 18)), fx_f 56]) (M1 := M) rfl ?_
  refine Ev.ifT fd_e146 rfl (by decide) (by decide) ?_
  refine Ev.run 4 fd_e146 (i' := 22) (ls' := [fx_f 56, .inl (x1), .inl (x2), .inl (0)]) (st' := [.inl (0)]) (M1 := (fx_set M 56 (fx_up (M 56) 18 ((M 56 18) + 0)))) rfl ?_
  exact Ev.ret2 fd_e146 rfl rfl (by decide)
theorem r146_16 {X : fx_Sc} {M : fx_M} {x1 x2 x3 s1 : Int} (g : (x3 = 0 ∨ x3 = 1)) : Ev X 146 16 [fx_f 56, .inl (x1), .inl (x2), .inl (x3)] [.inl (s1), fx_f 56] M (some (.inl (x3))) (fx_set M 56 (fx_up (M 56) 18 (s1 + 1))) := by
  refine Ev.run 5 fd_e146 (i' := 22) (ls' := [fx_f 56, .inl (x1), .inl (x2), .inl (x3)]) (st' := [.inl (x3)]) (M1 := (fx_set M 56 (fx_up (M 56) 18 (s1 + 1)))) rfl ?_
  exact Ev.ret2 fd_e146 rfl rfl g
theorem r146_18 {X : fx_Sc} {M : fx_M} {x1 x2 x3 s1 : Int} (g : (x3 = 0 ∨ x3 = 1)) : Ev X 146 18 [fx_f 56, .inl (x1), .inl (x2), .inl (x3)] [.inl (s1), fx_f 56] M (some (.inl (x3))) (fx_set M 56 (fx_up (M 56) 18 (s1 + 0))) := by
  refine Ev.run 4 fd_e146 (i' := 22) (ls' := [fx_f 56, .inl (x1), .inl (x2), .inl (x3)]) (st' := [.inl (x3)]) (M1 := (fx_set M 56 (fx_up (M 56) 18 (s1 + 0)))) rfl ?_
  exact Ev.ret2 fd_e146 rfl rfl g
-- 147: FoldedStripsModel.isMore()Z
theorem fd_e147 : fd_C 147 = fd_c147 := rfl
theorem r147_0 {X : fx_Sc} {M M' : fx_M} {r : Option fx_V} (k : Ev X 147 4 [fx_f 56, .inl (0), .inl (0)] [] M r M') : Ev X 147 0 [fx_f 56, fx_u, fx_u] [] M r M' := by
  refine Ev.run 4 fd_e147 (i' := 4) (ls' := [fx_f 56, .inl (0), .inl (0)]) (st' := []) (M1 := M) rfl ?_
  exact k
theorem r147_4T {X : fx_Sc} {M M' : fx_M} {r : Option fx_V} {x1 x2 : Int} (g : (-2147483648 ≤ x2 ∧ x2 < 2147483648)) (h : 24 ≤ x2) (k : Ev X 147 19 [fx_f 56, .inl (x1), .inl (x2)] [] M r M') : Ev X 147 4 [fx_f 56, .inl (x1), .inl (x2)] [] M r M' := by
  refine Ev.run 2 fd_e147 (i' := 6) (ls' := [fx_f 56, .inl (x1), .inl (x2)]) (st' := [.inl (24), .inl (x2)]) (M1 := M) rfl ?_
  refine Ev.icT fd_e147 rfl g (by decide) (decide_eq_true h) ?_
  exact k
theorem r147_4F {X : fx_Sc} {M M' : fx_M} {r : Option fx_V} {x1 x2 : Int} (g : (-2147483648 ≤ x2 ∧ x2 < 2147483648)) (h : x2 < 24) (k : Ev X 147 7 [fx_f 56, .inl (x1), .inl (x2)] [] M r M') : Ev X 147 4 [fx_f 56, .inl (x1), .inl (x2)] [] M r M' := by
  refine Ev.run 2 fd_e147 (i' := 6) (ls' := [fx_f 56, .inl (x1), .inl (x2)]) (st' := [.inl (24), .inl (x2)]) (M1 := M) rfl ?_
  refine Ev.icF fd_e147 rfl g (by decide) (decide_eq_false (Int.not_le.mpr h)) ?_
  exact k
theorem r147_7 {X : fx_Sc} {M M' : fx_M} {r : Option fx_V} {x1 x2 z : Int} {M1 : fx_M} (hc : Ev X 142 0 [fx_f 56, .inl (x2)] [] M (some (.inl z)) M1) (k : Ev X 147 11 [fx_f 56, .inl (x1), .inl (x2)] [.inl (z), .inl (x1)] M1 r M') : Ev X 147 7 [fx_f 56, .inl (x1), .inl (x2)] [] M r M' := by
  refine Ev.run 3 fd_e147 (i' := 10) (ls' := [fx_f 56, .inl (x1), .inl (x2)]) (st' := [.inl (x2), fx_f 56, .inl (x1)]) (M1 := M) rfl ?_
  refine Ev.callV (vs := [fx_f 56, .inl (x2)]) (rest := [.inl (x1)]) (r1 := (some (.inl z))) fd_e147 rfl rfl rfl (Nat.le_of_ble_eq_true rfl) (Nat.le_of_ble_eq_true rfl) rfl hc ?_
  exact k
theorem r147_11T {X : fx_Sc} {M M' : fx_M} {r : Option fx_V} {x1 x2 s0 s1 : Int} (g : (-2147483648 ≤ s1 ∧ s1 < 2147483648)) (h : s1 = 0) (k : Ev X 147 14 [fx_f 56, .inl (x1), .inl (x2)] [.inl (s0)] M r M') : Ev X 147 11 [fx_f 56, .inl (x1), .inl (x2)] [.inl (s1), .inl (s0)] M r M' := by
  refine Ev.ifT fd_e147 rfl g (decide_eq_true h) ?_
  exact k
theorem r147_11F {X : fx_Sc} {M M' : fx_M} {r : Option fx_V} {x1 x2 s0 s1 : Int} (g : (-2147483648 ≤ s1 ∧ s1 < 2147483648)) (h : s1 ≠ 0) (k : Ev X 147 12 [fx_f 56, .inl (x1), .inl (x2)] [.inl (s0)] M r M') : Ev X 147 11 [fx_f 56, .inl (x1), .inl (x2)] [.inl (s1), .inl (s0)] M r M' := by
  refine Ev.ifF fd_e147 rfl g (decide_eq_false h) ?_
  exact k
theorem r147_12 {X : fx_Sc} {M M' : fx_M} {r : Option fx_V} {x1 x2 s0 : Int} (k : Ev X 147 4 [fx_f 56, .inl ((s0 + 1)), .inl ((x2 + 1))] [] M r M') : Ev X 147 12 [fx_f 56, .inl (x1), .inl (x2)] [.inl (s0)] M r M' := by
  refine Ev.run 6 fd_e147 (i' := 4) (ls' := [fx_f 56, .inl ((s0 + 1)), .inl ((x2 + 1))]) (st' := []) (M1 := M) rfl ?_
  exact k
theorem r147_14 {X : fx_Sc} {M M' : fx_M} {r : Option fx_V} {x1 x2 s0 : Int} (k : Ev X 147 4 [fx_f 56, .inl ((s0 + 0)), .inl ((x2 + 1))] [] M r M') : Ev X 147 14 [fx_f 56, .inl (x1), .inl (x2)] [.inl (s0)] M r M' := by
  refine Ev.run 5 fd_e147 (i' := 4) (ls' := [fx_f 56, .inl ((s0 + 0)), .inl ((x2 + 1))]) (st' := []) (M1 := M) rfl ?_
  exact k
theorem r147_19T {X : fx_Sc} {M M' : fx_M} {r : Option fx_V} {x1 x2 : Int} (g : (-2147483648 ≤ x1 ∧ x1 < 2147483648)) (h : x1 < 2) (k : Ev X 147 24 [fx_f 56, .inl (x1), .inl (x2)] [] M r M') : Ev X 147 19 [fx_f 56, .inl (x1), .inl (x2)] [] M r M' := by
  refine Ev.run 2 fd_e147 (i' := 21) (ls' := [fx_f 56, .inl (x1), .inl (x2)]) (st' := [.inl (2), .inl (x1)]) (M1 := M) rfl ?_
  refine Ev.icT fd_e147 rfl g (by decide) (decide_eq_true h) ?_
  exact k
theorem r147_19F {X : fx_Sc} {M M' : fx_M} {r : Option fx_V} {x1 x2 : Int} (g : (-2147483648 ≤ x1 ∧ x1 < 2147483648)) (h : 2 ≤ x1) (k : Ev X 147 22 [fx_f 56, .inl (x1), .inl (x2)] [] M r M') : Ev X 147 19 [fx_f 56, .inl (x1), .inl (x2)] [] M r M' := by
  refine Ev.run 2 fd_e147 (i' := 21) (ls' := [fx_f 56, .inl (x1), .inl (x2)]) (st' := [.inl (2), .inl (x1)]) (M1 := M) rfl ?_
  refine Ev.icF fd_e147 rfl g (by decide) (decide_eq_false (Int.not_lt.mpr h)) ?_
  exact k
theorem r147_22 {X : fx_Sc} {M : fx_M} {x1 x2 : Int} : Ev X 147 22 [fx_f 56, .inl (x1), .inl (x2)] [] M (some (.inl (1))) M := by
  refine Ev.run 2 fd_e147 (i' := 25) (ls' := [fx_f 56, .inl (x1), .inl (x2)]) (st' := [.inl (1)]) (M1 := M) rfl ?_
  exact Ev.ret2 fd_e147 rfl rfl (by decide)
theorem r147_24 {X : fx_Sc} {M : fx_M} {x1 x2 : Int} : Ev X 147 24 [fx_f 56, .inl (x1), .inl (x2)] [] M (some (.inl (0))) M := by
  refine Ev.run 1 fd_e147 (i' := 25) (ls' := [fx_f 56, .inl (x1), .inl (x2)]) (st' := [.inl (0)]) (M1 := M) rfl ?_
  exact Ev.ret2 fd_e147 rfl rfl (by decide)
-- 148: FoldedStripsModel.end(III)I
theorem fd_e148 : fd_C 148 = fd_c148 := rfl
theorem r148_0 {X : fx_Sc} {M M' : fx_M} {r : Option fx_V} {x1 x2 x3 z : Int} {M1 : fx_M} (hc : Ev X 115 0 [.inl (x1), .inl (x2)] [] M (some (.inl z)) M1) (k : Ev X 148 3 [fx_f 56, .inl (x1), .inl (x2), .inl (x3), fx_u] [.inl (z)] M1 r M') : Ev X 148 0 [fx_f 56, .inl (x1), .inl (x2), .inl (x3), fx_u] [] M r M' := by
  refine Ev.run 2 fd_e148 (i' := 2) (ls' := [fx_f 56, .inl (x1), .inl (x2), .inl (x3), fx_u]) (st' := [.inl (x2), .inl (x1)]) (M1 := M) rfl ?_
  refine Ev.callS (vs := [.inl (x1), .inl (x2)]) (rest := []) (r1 := (some (.inl z))) fd_e148 rfl rfl rfl (Nat.le_of_ble_eq_true rfl) (Nat.le_of_ble_eq_true rfl) hc ?_
  exact k
theorem r148_3T {X : fx_Sc} {M M' : fx_M} {r : Option fx_V} {x1 x2 x3 s0 : Int} (g : (-2147483648 ≤ s0 ∧ s0 < 2147483648)) (h : s0 ≠ 0) (k : Ev X 148 6 [fx_f 56, .inl (x1), .inl (x2), .inl (x3), fx_u] [] M r M') : Ev X 148 3 [fx_f 56, .inl (x1), .inl (x2), .inl (x3), fx_u] [.inl (s0)] M r M' := by
  refine Ev.ifT fd_e148 rfl g (decide_eq_true h) ?_
  exact k
theorem r148_3F {X : fx_Sc} {M M' : fx_M} {r : Option fx_V} {x1 x2 x3 s0 : Int} (g : (-2147483648 ≤ s0 ∧ s0 < 2147483648)) (h : s0 = 0) (k : Ev X 148 4 [fx_f 56, .inl (x1), .inl (x2), .inl (x3), fx_u] [] M r M') : Ev X 148 3 [fx_f 56, .inl (x1), .inl (x2), .inl (x3), fx_u] [.inl (s0)] M r M' := by
  refine Ev.ifF fd_e148 rfl g (decide_eq_false (not_not_intro h)) ?_
  exact k
theorem r148_4 {X : fx_Sc} {M : fx_M} {x1 x2 x3 : Int} : Ev X 148 4 [fx_f 56, .inl (x1), .inl (x2), .inl (x3), fx_u] [] M (some (.inl ((-1)))) M := by
  refine Ev.run 1 fd_e148 (i' := 5) (ls' := [fx_f 56, .inl (x1), .inl (x2), .inl (x3), fx_u]) (st' := [.inl ((-1))]) (M1 := M) rfl ?_
  exact Ev.ret1 fd_e148 rfl rfl
theorem r148_6 {X : fx_Sc} {M M' : fx_M} {r : Option fx_V} {x1 x2 x3 : Int} {M1 : fx_M} (hc : Ev X 149 0 [fx_f 56, fx_u, fx_u, fx_u] [] M none M1) (k : Ev X 148 14 [fx_f 56, .inl (x1), .inl (x2), .inl (x3), .inl (((24 * x1) + x2))] [] M1 r M') : Ev X 148 6 [fx_f 56, .inl (x1), .inl (x2), .inl (x3), fx_u] [] M r M' := by
  refine Ev.run 7 fd_e148 (i' := 13) (ls' := [fx_f 56, .inl (x1), .inl (x2), .inl (x3), .inl (((24 * x1) + x2))]) (st' := [fx_f 56]) (M1 := M) rfl ?_
  refine Ev.callV (vs := [fx_f 56]) (rest := []) (r1 := none) fd_e148 rfl rfl rfl (Nat.le_of_ble_eq_true rfl) (Nat.le_of_ble_eq_true rfl) rfl hc ?_
  exact k
theorem r148_14D {X : fx_Sc} {M M' : fx_M} {r : Option fx_V} {x1 x2 x3 x4 : Int} (g : (-2147483648 ≤ x3 ∧ x3 < 2147483648)) (h : x3 < 0 ∨ 3 < x3) (k : Ev X 148 56 [fx_f 56, .inl (x1), .inl (x2), .inl (x3), .inl (x4)] [] M r M') : Ev X 148 14 [fx_f 56, .inl (x1), .inl (x2), .inl (x3), .inl (x4)] [] M r M' := by
  refine Ev.run 1 fd_e148 (i' := 15) (ls' := [fx_f 56, .inl (x1), .inl (x2), .inl (x3), .inl (x4)]) (st' := [.inl (x3)]) (M1 := M) rfl ?_
  refine Ev.tsO fd_e148 rfl g h ?_
  exact k
theorem r148_14c0 {X : fx_Sc} {M M' : fx_M} {r : Option fx_V} {x1 x2 x3 x4 : Int} (h : x3 = 0) (k : Ev X 148 16 [fx_f 56, .inl (x1), .inl (x2), .inl (x3), .inl (x4)] [] M r M') : Ev X 148 14 [fx_f 56, .inl (x1), .inl (x2), .inl (x3), .inl (x4)] [] M r M' := by
  refine Ev.run 1 fd_e148 (i' := 15) (ls' := [fx_f 56, .inl (x1), .inl (x2), .inl (x3), .inl (x4)]) (st' := [.inl (x3)]) (M1 := M) rfl ?_
  refine Ev.tsI (t := 16) fd_e148 rfl (by rw [h]; decide) (by rw [h]; decide) (by rw [h]; rfl) ?_
  exact k
theorem r148_14c1 {X : fx_Sc} {M M' : fx_M} {r : Option fx_V} {x1 x2 x3 x4 : Int} (h : x3 = 1) (k : Ev X 148 29 [fx_f 56, .inl (x1), .inl (x2), .inl (x3), .inl (x4)] [] M r M') : Ev X 148 14 [fx_f 56, .inl (x1), .inl (x2), .inl (x3), .inl (x4)] [] M r M' := by
  refine Ev.run 1 fd_e148 (i' := 15) (ls' := [fx_f 56, .inl (x1), .inl (x2), .inl (x3), .inl (x4)]) (st' := [.inl (x3)]) (M1 := M) rfl ?_
  refine Ev.tsI (t := 29) fd_e148 rfl (by rw [h]; decide) (by rw [h]; decide) (by rw [h]; rfl) ?_
  exact k
theorem r148_14c2 {X : fx_Sc} {M M' : fx_M} {r : Option fx_V} {x1 x2 x3 x4 : Int} (h : x3 = 2) (k : Ev X 148 33 [fx_f 56, .inl (x1), .inl (x2), .inl (x3), .inl (x4)] [] M r M') : Ev X 148 14 [fx_f 56, .inl (x1), .inl (x2), .inl (x3), .inl (x4)] [] M r M' := by
  refine Ev.run 1 fd_e148 (i' := 15) (ls' := [fx_f 56, .inl (x1), .inl (x2), .inl (x3), .inl (x4)]) (st' := [.inl (x3)]) (M1 := M) rfl ?_
  refine Ev.tsI (t := 33) fd_e148 rfl (by rw [h]; decide) (by rw [h]; decide) (by rw [h]; rfl) ?_
  exact k
theorem r148_14c3 {X : fx_Sc} {M M' : fx_M} {r : Option fx_V} {x1 x2 x3 x4 : Int} (h : x3 = 3) (k : Ev X 148 46 [fx_f 56, .inl (x1), .inl (x2), .inl (x3), .inl (x4)] [] M r M') : Ev X 148 14 [fx_f 56, .inl (x1), .inl (x2), .inl (x3), .inl (x4)] [] M r M' := by
  refine Ev.run 1 fd_e148 (i' := 15) (ls' := [fx_f 56, .inl (x1), .inl (x2), .inl (x3), .inl (x4)]) (st' := [.inl (x3)]) (M1 := M) rfl ?_
  refine Ev.tsI (t := 46) fd_e148 rfl (by rw [h]; decide) (by rw [h]; decide) (by rw [h]; rfl) ?_
  exact k
theorem r148_16 {X : fx_Sc} {M M' : fx_M} {r : Option fx_V} {x1 x2 x3 x4 z : Int} {M1 : fx_M} (hc : Ev X 118 0 [fx_f 56, .inl (x4)] [] M (some (.inl z)) M1) (k : Ev X 148 19 [fx_f 56, .inl (x1), .inl (x2), .inl (x3), .inl (x4)] [.inl (z)] M1 r M') : Ev X 148 16 [fx_f 56, .inl (x1), .inl (x2), .inl (x3), .inl (x4)] [] M r M' := by
  refine Ev.run 2 fd_e148 (i' := 18) (ls' := [fx_f 56, .inl (x1), .inl (x2), .inl (x3), .inl (x4)]) (st' := [.inl (x4), fx_f 56]) (M1 := M) rfl ?_
  refine Ev.callV (vs := [fx_f 56, .inl (x4)]) (rest := []) (r1 := (some (.inl z))) fd_e148 rfl rfl rfl (Nat.le_of_ble_eq_true rfl) (Nat.le_of_ble_eq_true rfl) rfl hc ?_
  exact k
theorem r148_19T {X : fx_Sc} {M M' : fx_M} {r : Option fx_V} {x1 x2 x3 x4 s0 : Int} (g : (-2147483648 ≤ s0 ∧ s0 < 2147483648)) (h : s0 = 0) (k : Ev X 148 27 [fx_f 56, .inl (x1), .inl (x2), .inl (x3), .inl (x4)] [] M r M') : Ev X 148 19 [fx_f 56, .inl (x1), .inl (x2), .inl (x3), .inl (x4)] [.inl (s0)] M r M' := by
  refine Ev.ifT fd_e148 rfl g (decide_eq_true h) ?_
  exact k
theorem r148_19F {X : fx_Sc} {M M' : fx_M} {r : Option fx_V} {x1 x2 x3 x4 s0 : Int} (g : (-2147483648 ≤ s0 ∧ s0 < 2147483648)) (h : s0 ≠ 0) (k : Ev X 148 20 [fx_f 56, .inl (x1), .inl (x2), .inl (x3), .inl (x4)] [] M r M') : Ev X 148 19 [fx_f 56, .inl (x1), .inl (x2), .inl (x3), .inl (x4)] [.inl (s0)] M r M' := by
  refine Ev.ifF fd_e148 rfl g (decide_eq_false h) ?_
  exact k
theorem r148_20 {X : fx_Sc} {M : fx_M} {x1 x2 x3 x4 : Int} (g : (0 ≤ x4 ∧ x4 < ((150 : Nat) : Int))) : Ev X 148 20 [fx_f 56, .inl (x1), .inl (x2), .inl (x3), .inl (x4)] [] M (some (.inl (((M 57 (x4).toNat) - 1)))) M := by
  refine Ev.run 3 fd_e148 (i' := 23) (ls' := [fx_f 56, .inl (x1), .inl (x2), .inl (x3), .inl (x4)]) (st' := [.inl (x4), fx_f 57]) (M1 := M) rfl ?_
  refine Ev.iald fd_e148 rfl rfl (by decide) g ?_
  refine Ev.run 3 fd_e148 (i' := 28) (ls' := [fx_f 56, .inl (x1), .inl (x2), .inl (x3), .inl (x4)]) (st' := [.inl (((M 57 (x4).toNat) - 1))]) (M1 := M) rfl ?_
  exact Ev.ret1 fd_e148 rfl rfl
theorem r148_27 {X : fx_Sc} {M : fx_M} {x1 x2 x3 x4 : Int} : Ev X 148 27 [fx_f 56, .inl (x1), .inl (x2), .inl (x3), .inl (x4)] [] M (some (.inl ((-6)))) M := by
  refine Ev.run 1 fd_e148 (i' := 28) (ls' := [fx_f 56, .inl (x1), .inl (x2), .inl (x3), .inl (x4)]) (st' := [.inl ((-6))]) (M1 := M) rfl ?_
  exact Ev.ret1 fd_e148 rfl rfl
theorem r148_29 {X : fx_Sc} {M M' : fx_M} {r : Option fx_V} {x1 x2 x3 x4 z : Int} {M1 : fx_M} (hc : Ev X 131 0 [fx_f 56, .inl (x4), fx_u] [] M (some (.inl z)) M1) (k : Ev X 148 32 [fx_f 56, .inl (x1), .inl (x2), .inl (x3), .inl (x4)] [.inl (z)] M1 r M') : Ev X 148 29 [fx_f 56, .inl (x1), .inl (x2), .inl (x3), .inl (x4)] [] M r M' := by
  refine Ev.run 2 fd_e148 (i' := 31) (ls' := [fx_f 56, .inl (x1), .inl (x2), .inl (x3), .inl (x4)]) (st' := [.inl (x4), fx_f 56]) (M1 := M) rfl ?_
  refine Ev.callV (vs := [fx_f 56, .inl (x4)]) (rest := []) (r1 := (some (.inl z))) fd_e148 rfl rfl rfl (Nat.le_of_ble_eq_true rfl) (Nat.le_of_ble_eq_true rfl) rfl hc ?_
  exact k
theorem r148_32 {X : fx_Sc} {M : fx_M} {x1 x2 x3 x4 s0 : Int} : Ev X 148 32 [fx_f 56, .inl (x1), .inl (x2), .inl (x3), .inl (x4)] [.inl (s0)] M (some (.inl (s0))) M := by
  exact Ev.ret1 fd_e148 rfl rfl
theorem r148_33 {X : fx_Sc} {M M' : fx_M} {r : Option fx_V} {x1 x2 x3 x4 z : Int} {M1 : fx_M} (hc : Ev X 118 0 [fx_f 56, .inl (x4)] [] M (some (.inl z)) M1) (k : Ev X 148 36 [fx_f 56, .inl (x1), .inl (x2), .inl (x3), .inl (x4)] [.inl (z)] M1 r M') : Ev X 148 33 [fx_f 56, .inl (x1), .inl (x2), .inl (x3), .inl (x4)] [] M r M' := by
  refine Ev.run 2 fd_e148 (i' := 35) (ls' := [fx_f 56, .inl (x1), .inl (x2), .inl (x3), .inl (x4)]) (st' := [.inl (x4), fx_f 56]) (M1 := M) rfl ?_
  refine Ev.callV (vs := [fx_f 56, .inl (x4)]) (rest := []) (r1 := (some (.inl z))) fd_e148 rfl rfl rfl (Nat.le_of_ble_eq_true rfl) (Nat.le_of_ble_eq_true rfl) rfl hc ?_
  exact k
theorem r148_36T {X : fx_Sc} {M M' : fx_M} {r : Option fx_V} {x1 x2 x3 x4 s0 : Int} (g : (-2147483648 ≤ s0 ∧ s0 < 2147483648)) (h : s0 = 0) (k : Ev X 148 44 [fx_f 56, .inl (x1), .inl (x2), .inl (x3), .inl (x4)] [] M r M') : Ev X 148 36 [fx_f 56, .inl (x1), .inl (x2), .inl (x3), .inl (x4)] [.inl (s0)] M r M' := by
  refine Ev.ifT fd_e148 rfl g (decide_eq_true h) ?_
  exact k
theorem r148_36F {X : fx_Sc} {M M' : fx_M} {r : Option fx_V} {x1 x2 x3 x4 s0 : Int} (g : (-2147483648 ≤ s0 ∧ s0 < 2147483648)) (h : s0 ≠ 0) (k : Ev X 148 37 [fx_f 56, .inl (x1), .inl (x2), .inl (x3), .inl (x4)] [] M r M') : Ev X 148 36 [fx_f 56, .inl (x1), .inl (x2), .inl (x3), .inl (x4)] [.inl (s0)] M r M' := by
  refine Ev.ifF fd_e148 rfl g (decide_eq_false h) ?_
  exact k
theorem r148_37 {X : fx_Sc} {M : fx_M} {x1 x2 x3 x4 : Int} (g : (0 ≤ x4 ∧ x4 < ((144 : Nat) : Int))) : Ev X 148 37 [fx_f 56, .inl (x1), .inl (x2), .inl (x3), .inl (x4)] [] M (some (.inl (((M 63 (x4).toNat) - 1)))) M := by
  refine Ev.run 3 fd_e148 (i' := 40) (ls' := [fx_f 56, .inl (x1), .inl (x2), .inl (x3), .inl (x4)]) (st' := [.inl (x4), fx_f 63]) (M1 := M) rfl ?_
  refine Ev.iald fd_e148 rfl rfl (by decide) g ?_
  refine Ev.run 3 fd_e148 (i' := 45) (ls' := [fx_f 56, .inl (x1), .inl (x2), .inl (x3), .inl (x4)]) (st' := [.inl (((M 63 (x4).toNat) - 1))]) (M1 := M) rfl ?_
  exact Ev.ret1 fd_e148 rfl rfl
theorem r148_44 {X : fx_Sc} {M : fx_M} {x1 x2 x3 x4 : Int} : Ev X 148 44 [fx_f 56, .inl (x1), .inl (x2), .inl (x3), .inl (x4)] [] M (some (.inl ((-6)))) M := by
  refine Ev.run 1 fd_e148 (i' := 45) (ls' := [fx_f 56, .inl (x1), .inl (x2), .inl (x3), .inl (x4)]) (st' := [.inl ((-6))]) (M1 := M) rfl ?_
  exact Ev.ret1 fd_e148 rfl rfl
theorem r148_46 {X : fx_Sc} {M M' : fx_M} {r : Option fx_V} {x1 x2 x3 x4 z : Int} {M1 : fx_M} (hc : Ev X 118 0 [fx_f 56, .inl (x4)] [] M (some (.inl z)) M1) (k : Ev X 148 49 [fx_f 56, .inl (x1), .inl (x2), .inl (x3), .inl (x4)] [.inl (z)] M1 r M') : Ev X 148 46 [fx_f 56, .inl (x1), .inl (x2), .inl (x3), .inl (x4)] [] M r M' := by
  refine Ev.run 2 fd_e148 (i' := 48) (ls' := [fx_f 56, .inl (x1), .inl (x2), .inl (x3), .inl (x4)]) (st' := [.inl (x4), fx_f 56]) (M1 := M) rfl ?_
  refine Ev.callV (vs := [fx_f 56, .inl (x4)]) (rest := []) (r1 := (some (.inl z))) fd_e148 rfl rfl rfl (Nat.le_of_ble_eq_true rfl) (Nat.le_of_ble_eq_true rfl) rfl hc ?_
  exact k
theorem r148_49T {X : fx_Sc} {M M' : fx_M} {r : Option fx_V} {x1 x2 x3 x4 s0 : Int} (g : (-2147483648 ≤ s0 ∧ s0 < 2147483648)) (h : s0 = 0) (k : Ev X 148 54 [fx_f 56, .inl (x1), .inl (x2), .inl (x3), .inl (x4)] [] M r M') : Ev X 148 49 [fx_f 56, .inl (x1), .inl (x2), .inl (x3), .inl (x4)] [.inl (s0)] M r M' := by
  refine Ev.ifT fd_e148 rfl g (decide_eq_true h) ?_
  exact k
theorem r148_49F {X : fx_Sc} {M M' : fx_M} {r : Option fx_V} {x1 x2 x3 x4 s0 : Int} (g : (-2147483648 ≤ s0 ∧ s0 < 2147483648)) (h : s0 ≠ 0) (k : Ev X 148 50 [fx_f 56, .inl (x1), .inl (x2), .inl (x3), .inl (x4)] [] M r M') : Ev X 148 49 [fx_f 56, .inl (x1), .inl (x2), .inl (x3), .inl (x4)] [.inl (s0)] M r M' := by
  refine Ev.ifF fd_e148 rfl g (decide_eq_false h) ?_
  exact k
theorem r148_50 {X : fx_Sc} {M M' : fx_M} {r : Option fx_V} {x1 x2 x3 x4 z : Int} {M1 : fx_M} (hc : Ev X 153 0 [fx_f 56, .inl (x4), fx_u, fx_u, fx_u, fx_u, fx_u, fx_u, fx_u] [] M (some (.inl z)) M1) (k : Ev X 148 53 [fx_f 56, .inl (x1), .inl (x2), .inl (x3), .inl (x4)] [.inl (z)] M1 r M') : Ev X 148 50 [fx_f 56, .inl (x1), .inl (x2), .inl (x3), .inl (x4)] [] M r M' := by
  refine Ev.run 2 fd_e148 (i' := 52) (ls' := [fx_f 56, .inl (x1), .inl (x2), .inl (x3), .inl (x4)]) (st' := [.inl (x4), fx_f 56]) (M1 := M) rfl ?_
  refine Ev.callV (vs := [fx_f 56, .inl (x4)]) (rest := []) (r1 := (some (.inl z))) fd_e148 rfl rfl rfl (Nat.le_of_ble_eq_true rfl) (Nat.le_of_ble_eq_true rfl) rfl hc ?_
  exact k
theorem r148_53 {X : fx_Sc} {M : fx_M} {x1 x2 x3 x4 s0 : Int} : Ev X 148 53 [fx_f 56, .inl (x1), .inl (x2), .inl (x3), .inl (x4)] [.inl (s0)] M (some (.inl (s0))) M := by
  refine Ev.run 1 fd_e148 (i' := 55) (ls' := [fx_f 56, .inl (x1), .inl (x2), .inl (x3), .inl (x4)]) (st' := [.inl (s0)]) (M1 := M) rfl ?_
  exact Ev.ret1 fd_e148 rfl rfl
theorem r148_54 {X : fx_Sc} {M : fx_M} {x1 x2 x3 x4 : Int} : Ev X 148 54 [fx_f 56, .inl (x1), .inl (x2), .inl (x3), .inl (x4)] [] M (some (.inl ((-6)))) M := by
  refine Ev.run 1 fd_e148 (i' := 55) (ls' := [fx_f 56, .inl (x1), .inl (x2), .inl (x3), .inl (x4)]) (st' := [.inl ((-6))]) (M1 := M) rfl ?_
  exact Ev.ret1 fd_e148 rfl rfl
theorem r148_56 {X : fx_Sc} {M : fx_M} {x1 x2 x3 x4 : Int} : Ev X 148 56 [fx_f 56, .inl (x1), .inl (x2), .inl (x3), .inl (x4)] [] M (some (.inl ((-2)))) M := by
  refine Ev.run 1 fd_e148 (i' := 57) (ls' := [fx_f 56, .inl (x1), .inl (x2), .inl (x3), .inl (x4)]) (st' := [.inl ((-2))]) (M1 := M) rfl ?_
  exact Ev.ret1 fd_e148 rfl rfl
-- 149: FoldedStripsModel.lay()V
theorem fd_e149 : fd_C 149 = fd_c149 := rfl
theorem r149_0 {X : fx_Sc} {M M' : fx_M} {r : Option fx_V} (k : Ev X 149 5 [fx_f 56, .inl (0), fx_u, fx_u] [] (fx_set M 56 (fx_up (M 56) 14 0)) r M') : Ev X 149 0 [fx_f 56, fx_u, fx_u, fx_u] [] M r M' := by
  refine Ev.run 5 fd_e149 (i' := 5) (ls' := [fx_f 56, .inl (0), fx_u, fx_u]) (st' := []) (M1 := (fx_set M 56 (fx_up (M 56) 14 0))) rfl ?_
  exact k
theorem r149_5T {X : fx_Sc} {M M' : fx_M} {r : Option fx_V} {x1 : Int} (g : (-2147483648 ≤ x1 ∧ x1 < 2147483648)) (h : 144 ≤ x1) (k : Ev X 149 15 [fx_f 56, .inl (x1), fx_u, fx_u] [] M r M') : Ev X 149 5 [fx_f 56, .inl (x1), fx_u, fx_u] [] M r M' := by
  refine Ev.run 2 fd_e149 (i' := 7) (ls' := [fx_f 56, .inl (x1), fx_u, fx_u]) (st' := [.inl (144), .inl (x1)]) (M1 := M) rfl ?_
  refine Ev.icT fd_e149 rfl g (by decide) (decide_eq_true h) ?_
  exact k
theorem r149_5F {X : fx_Sc} {M M' : fx_M} {r : Option fx_V} {x1 : Int} (g : (-2147483648 ≤ x1 ∧ x1 < 2147483648)) (h : x1 < 144) (k : Ev X 149 8 [fx_f 56, .inl (x1), fx_u, fx_u] [] M r M') : Ev X 149 5 [fx_f 56, .inl (x1), fx_u, fx_u] [] M r M' := by
  refine Ev.run 2 fd_e149 (i' := 7) (ls' := [fx_f 56, .inl (x1), fx_u, fx_u]) (st' := [.inl (144), .inl (x1)]) (M1 := M) rfl ?_
  refine Ev.icF fd_e149 rfl g (by decide) (decide_eq_false (Int.not_le.mpr h)) ?_
  exact k
theorem r149_8 {X : fx_Sc} {M M' : fx_M} {r : Option fx_V} {x1 : Int} (g : (0 ≤ x1 ∧ x1 < ((144 : Nat) : Int))) (k : Ev X 149 5 [fx_f 56, .inl ((x1 + 1)), fx_u, fx_u] [] (fx_set M 63 (fx_up (M 63) (x1).toNat 0)) r M') : Ev X 149 8 [fx_f 56, .inl (x1), fx_u, fx_u] [] M r M' := by
  refine Ev.run 4 fd_e149 (i' := 12) (ls' := [fx_f 56, .inl (x1), fx_u, fx_u]) (st' := [.inl (0), .inl (x1), fx_f 63]) (M1 := M) rfl ?_
  refine Ev.iast fd_e149 rfl rfl (by decide) g ?_
  refine Ev.run 2 fd_e149 (i' := 5) (ls' := [fx_f 56, .inl ((x1 + 1)), fx_u, fx_u]) (st' := []) (M1 := (fx_set M 63 (fx_up (M 63) (x1).toNat 0))) rfl ?_
  exact k
theorem r149_15 {X : fx_Sc} {M M' : fx_M} {r : Option fx_V} {x1 : Int} (k : Ev X 149 17 [fx_f 56, .inl (0), fx_u, fx_u] [] M r M') : Ev X 149 15 [fx_f 56, .inl (x1), fx_u, fx_u] [] M r M' := by
  refine Ev.run 2 fd_e149 (i' := 17) (ls' := [fx_f 56, .inl (0), fx_u, fx_u]) (st' := []) (M1 := M) rfl ?_
  exact k
theorem r149_17T {X : fx_Sc} {M M' : fx_M} {r : Option fx_V} {x1 : Int} {v2 v3 : fx_V} (g : (-2147483648 ≤ x1 ∧ x1 < 2147483648)) (h : 144 ≤ x1) (k : Ev X 149 114 [fx_f 56, .inl (x1), v2, v3] [] M r M') : Ev X 149 17 [fx_f 56, .inl (x1), v2, v3] [] M r M' := by
  refine Ev.run 2 fd_e149 (i' := 19) (ls' := [fx_f 56, .inl (x1), v2, v3]) (st' := [.inl (144), .inl (x1)]) (M1 := M) rfl ?_
  refine Ev.icT fd_e149 rfl g (by decide) (decide_eq_true h) ?_
  exact k
theorem r149_17F {X : fx_Sc} {M M' : fx_M} {r : Option fx_V} {x1 : Int} {v2 v3 : fx_V} (g : (-2147483648 ≤ x1 ∧ x1 < 2147483648)) (h : x1 < 144) (k : Ev X 149 20 [fx_f 56, .inl (x1), v2, v3] [] M r M') : Ev X 149 17 [fx_f 56, .inl (x1), v2, v3] [] M r M' := by
  refine Ev.run 2 fd_e149 (i' := 19) (ls' := [fx_f 56, .inl (x1), v2, v3]) (st' := [.inl (144), .inl (x1)]) (M1 := M) rfl ?_
  refine Ev.icF fd_e149 rfl g (by decide) (decide_eq_false (Int.not_le.mpr h)) ?_
  exact k
theorem r149_20 {X : fx_Sc} {M M' : fx_M} {r : Option fx_V} {x1 z : Int} {v2 v3 : fx_V} {M1 : fx_M} (hc : Ev X 118 0 [fx_f 56, .inl (x1)] [] M (some (.inl z)) M1) (k : Ev X 149 23 [fx_f 56, .inl (x1), v2, v3] [.inl (z)] M1 r M') : Ev X 149 20 [fx_f 56, .inl (x1), v2, v3] [] M r M' := by
  refine Ev.run 2 fd_e149 (i' := 22) (ls' := [fx_f 56, .inl (x1), v2, v3]) (st' := [.inl (x1), fx_f 56]) (M1 := M) rfl ?_
  refine Ev.callV (vs := [fx_f 56, .inl (x1)]) (rest := []) (r1 := (some (.inl z))) fd_e149 rfl rfl rfl (Nat.le_of_ble_eq_true rfl) (Nat.le_of_ble_eq_true rfl) rfl hc ?_
  exact k
theorem r149_23T {X : fx_Sc} {M M' : fx_M} {r : Option fx_V} {x1 s0 : Int} {v2 v3 : fx_V} (g : (-2147483648 ≤ s0 ∧ s0 < 2147483648)) (h : s0 = 0) (k : Ev X 149 112 [fx_f 56, .inl (x1), v2, v3] [] M r M') : Ev X 149 23 [fx_f 56, .inl (x1), v2, v3] [.inl (s0)] M r M' := by
  refine Ev.ifT fd_e149 rfl g (decide_eq_true h) ?_
  exact k
theorem r149_23F {X : fx_Sc} {M M' : fx_M} {r : Option fx_V} {x1 s0 : Int} {v2 v3 : fx_V} (g : (-2147483648 ≤ s0 ∧ s0 < 2147483648)) (h : s0 ≠ 0) (k : Ev X 149 24 [fx_f 56, .inl (x1), v2, v3] [] M r M') : Ev X 149 23 [fx_f 56, .inl (x1), v2, v3] [.inl (s0)] M r M' := by
  refine Ev.ifF fd_e149 rfl g (decide_eq_false h) ?_
  exact k
theorem r149_24T {X : fx_Sc} {M M' : fx_M} {r : Option fx_V} {x1 : Int} {v2 v3 : fx_V} (g : (0 ≤ x1 ∧ x1 < ((144 : Nat) : Int)) ∧ (-2147483648 ≤ (M 63 (x1).toNat) ∧ (M 63 (x1).toNat) < 2147483648)) (h : (M 63 (x1).toNat) ≠ 0) (k : Ev X 149 112 [fx_f 56, .inl (x1), v2, v3] [] M r M') : Ev X 149 24 [fx_f 56, .inl (x1), v2, v3] [] M r M' := by
  refine Ev.run 3 fd_e149 (i' := 27) (ls' := [fx_f 56, .inl (x1), v2, v3]) (st' := [.inl (x1), fx_f 63]) (M1 := M) rfl ?_
  refine Ev.iald fd_e149 rfl rfl (by decide) g.1 ?_
  refine Ev.ifT fd_e149 rfl g.2 (decide_eq_true h) ?_
  exact k
theorem r149_24F {X : fx_Sc} {M M' : fx_M} {r : Option fx_V} {x1 : Int} {v2 v3 : fx_V} (g : (0 ≤ x1 ∧ x1 < ((144 : Nat) : Int)) ∧ (-2147483648 ≤ (M 63 (x1).toNat) ∧ (M 63 (x1).toNat) < 2147483648)) (h : (M 63 (x1).toNat) = 0) (k : Ev X 149 29 [fx_f 56, .inl (x1), v2, v3] [] M r M') : Ev X 149 24 [fx_f 56, .inl (x1), v2, v3] [] M r M' := by
  refine Ev.run 3 fd_e149 (i' := 27) (ls' := [fx_f 56, .inl (x1), v2, v3]) (st' := [.inl (x1), fx_f 63]) (M1 := M) rfl ?_
  refine Ev.iald fd_e149 rfl rfl (by decide) g.1 ?_
  refine Ev.ifF fd_e149 rfl g.2 (decide_eq_false (not_not_intro h)) ?_
  exact k
theorem r149_29 {X : fx_Sc} {M M' : fx_M} {r : Option fx_V} {x1 : Int} {v2 v3 : fx_V} {M1 : fx_M} (g : (0 ≤ (((fx_set M 56 (fx_up (M 56) 14 ((M 56 14) + 1))) 56 14) - 1) ∧ (((fx_set M 56 (fx_up (M 56) 14 ((M 56 14) + 1))) 56 14) - 1) < ((72 : Nat) : Int)) ∧ (0 ≤ (((fx_set (fx_set M 56 (fx_up (M 56) 14 ((M 56 14) + 1))) 64 (fx_up ((fx_set M 56 (fx_up (M 56) 14 ((M 56 14) + 1))) 64) ((((fx_set M 56 (fx_up (M 56) 14 ((M 56 14) + 1))) 56 14) - 1)).toNat 0)) 56 14) - 1) ∧ (((fx_set (fx_set M 56 (fx_up (M 56) 14 ((M 56 14) + 1))) 64 (fx_up ((fx_set M 56 (fx_up (M 56) 14 ((M 56 14) + 1))) 64) ((((fx_set M 56 (fx_up (M 56) 14 ((M 56 14) + 1))) 56 14) - 1)).toNat 0)) 56 14) - 1) < ((72 : Nat) : Int))) (hc : Ev X 150 0 [fx_f 56, .inl (x1)] [] (fx_set (fx_set (fx_set M 56 (fx_up (M 56) 14 ((M 56 14) + 1))) 64 (fx_up ((fx_set M 56 (fx_up (M 56) 14 ((M 56 14) + 1))) 64) ((((fx_set M 56 (fx_up (M 56) 14 ((M 56 14) + 1))) 56 14) - 1)).toNat 0)) 66 (fx_up ((fx_set (fx_set M 56 (fx_up (M 56) 14 ((M 56 14) + 1))) 64 (fx_up ((fx_set M 56 (fx_up (M 56) 14 ((M 56 14) + 1))) 64) ((((fx_set M 56 (fx_up (M 56) 14 ((M 56 14) + 1))) 56 14) - 1)).toNat 0)) 66) ((((fx_set (fx_set M 56 (fx_up (M 56) 14 ((M 56 14) + 1))) 64 (fx_up ((fx_set M 56 (fx_up (M 56) 14 ((M 56 14) + 1))) 64) ((((fx_set M 56 (fx_up (M 56) 14 ((M 56 14) + 1))) 56 14) - 1)).toNat 0)) 56 14) - 1)).toNat 0)) none M1) (k : Ev X 149 54 [fx_f 56, .inl (x1), v2, v3] [] M1 r M') : Ev X 149 29 [fx_f 56, .inl (x1), v2, v3] [] M r M' := by
  refine Ev.run 13 fd_e149 (i' := 42) (ls' := [fx_f 56, .inl (x1), v2, v3]) (st' := [.inl (0), .inl ((((fx_set M 56 (fx_up (M 56) 14 ((M 56 14) + 1))) 56 14) - 1)), fx_f 64]) (M1 := (fx_set M 56 (fx_up (M 56) 14 ((M 56 14) + 1)))) rfl ?_
  refine Ev.iast fd_e149 rfl rfl (by decide) g.1 ?_
  refine Ev.run 7 fd_e149 (i' := 50) (ls' := [fx_f 56, .inl (x1), v2, v3]) (st' := [.inl (0), .inl ((((fx_set (fx_set M 56 (fx_up (M 56) 14 ((M 56 14) + 1))) 64 (fx_up ((fx_set M 56 (fx_up (M 56) 14 ((M 56 14) + 1))) 64) ((((fx_set M 56 (fx_up (M 56) 14 ((M 56 14) + 1))) 56 14) - 1)).toNat 0)) 56 14) - 1)), fx_f 66]) (M1 := (fx_set (fx_set M 56 (fx_up (M 56) 14 ((M 56 14) + 1))) 64 (fx_up ((fx_set M 56 (fx_up (M 56) 14 ((M 56 14) + 1))) 64) ((((fx_set M 56 (fx_up (M 56) 14 ((M 56 14) + 1))) 56 14) - 1)).toNat 0))) rfl ?_
  refine Ev.iast fd_e149 rfl rfl (by decide) g.2 ?_
  refine Ev.run 2 fd_e149 (i' := 53) (ls' := [fx_f 56, .inl (x1), v2, v3]) (st' := [.inl (x1), fx_f 56]) (M1 := (fx_set (fx_set (fx_set M 56 (fx_up (M 56) 14 ((M 56 14) + 1))) 64 (fx_up ((fx_set M 56 (fx_up (M 56) 14 ((M 56 14) + 1))) 64) ((((fx_set M 56 (fx_up (M 56) 14 ((M 56 14) + 1))) 56 14) - 1)).toNat 0)) 66 (fx_up ((fx_set (fx_set M 56 (fx_up (M 56) 14 ((M 56 14) + 1))) 64 (fx_up ((fx_set M 56 (fx_up (M 56) 14 ((M 56 14) + 1))) 64) ((((fx_set M 56 (fx_up (M 56) 14 ((M 56 14) + 1))) 56 14) - 1)).toNat 0)) 66) ((((fx_set (fx_set M 56 (fx_up (M 56) 14 ((M 56 14) + 1))) 64 (fx_up ((fx_set M 56 (fx_up (M 56) 14 ((M 56 14) + 1))) 64) ((((fx_set M 56 (fx_up (M 56) 14 ((M 56 14) + 1))) 56 14) - 1)).toNat 0)) 56 14) - 1)).toNat 0))) rfl ?_
  refine Ev.callV (vs := [fx_f 56, .inl (x1)]) (rest := []) (r1 := none) fd_e149 rfl rfl rfl (Nat.le_of_ble_eq_true rfl) (Nat.le_of_ble_eq_true rfl) rfl hc ?_
  exact k
theorem r149_54 {X : fx_Sc} {M M' : fx_M} {r : Option fx_V} {x1 z : Int} {v2 v3 : fx_V} {M1 : fx_M} (hc : Ev X 151 0 [fx_f 56, .inl (x1)] [] M (some (.inl z)) M1) (k : Ev X 149 59 [fx_f 56, .inl (x1), v2, v3] [.inl (z), .inl (x1), fx_f 56] M1 r M') : Ev X 149 54 [fx_f 56, .inl (x1), v2, v3] [] M r M' := by
  refine Ev.run 4 fd_e149 (i' := 58) (ls' := [fx_f 56, .inl (x1), v2, v3]) (st' := [.inl (x1), fx_f 56, .inl (x1), fx_f 56]) (M1 := M) rfl ?_
  refine Ev.callV (vs := [fx_f 56, .inl (x1)]) (rest := [.inl (x1), fx_f 56]) (r1 := (some (.inl z))) fd_e149 rfl rfl rfl (Nat.le_of_ble_eq_true rfl) (Nat.le_of_ble_eq_true rfl) rfl hc ?_
  exact k
theorem r149_59 {X : fx_Sc} {M M' : fx_M} {r : Option fx_V} {x1 s1 s2 z : Int} {v2 v3 : fx_V} {M1 : fx_M} (hc : Ev X 152 0 [fx_f 56, .inl (s1), .inl (s2), fx_u, fx_u] [] M (some (.inl z)) M1) (k : Ev X 149 60 [fx_f 56, .inl (x1), v2, v3] [.inl (z)] M1 r M') : Ev X 149 59 [fx_f 56, .inl (x1), v2, v3] [.inl (s2), .inl (s1), fx_f 56] M r M' := by
  refine Ev.callV (vs := [fx_f 56, .inl (s1), .inl (s2)]) (rest := []) (r1 := (some (.inl z))) fd_e149 rfl rfl rfl (Nat.le_of_ble_eq_true rfl) (Nat.le_of_ble_eq_true rfl) rfl hc ?_
  exact k
theorem r149_60T {X : fx_Sc} {M M' : fx_M} {r : Option fx_V} {x1 s0 : Int} {v2 v3 : fx_V} (g : (-2147483648 ≤ s0 ∧ s0 < 2147483648)) (h : s0 ≠ (-6)) (k : Ev X 149 66 [fx_f 56, .inl (x1), .inl (s0), v3] [] M r M') : Ev X 149 60 [fx_f 56, .inl (x1), v2, v3] [.inl (s0)] M r M' := by
  refine Ev.run 3 fd_e149 (i' := 63) (ls' := [fx_f 56, .inl (x1), .inl (s0), v3]) (st' := [.inl ((-6)), .inl (s0)]) (M1 := M) rfl ?_
  refine Ev.icT fd_e149 rfl g (by decide) (decide_eq_true h) ?_
  exact k
theorem r149_60F {X : fx_Sc} {M M' : fx_M} {r : Option fx_V} {x1 s0 : Int} {v2 v3 : fx_V} (g : (-2147483648 ≤ s0 ∧ s0 < 2147483648)) (h : s0 = (-6)) (k : Ev X 149 64 [fx_f 56, .inl (x1), .inl (s0), v3] [] M r M') : Ev X 149 60 [fx_f 56, .inl (x1), v2, v3] [.inl (s0)] M r M' := by
  refine Ev.run 3 fd_e149 (i' := 63) (ls' := [fx_f 56, .inl (x1), .inl (s0), v3]) (st' := [.inl ((-6)), .inl (s0)]) (M1 := M) rfl ?_
  refine Ev.icF fd_e149 rfl g (by decide) (decide_eq_false (not_not_intro h)) ?_
  exact k
theorem r149_64T {X : fx_Sc} {M M' : fx_M} {r : Option fx_V} {x1 x2 : Int} {v3 : fx_V} (g : (-2147483648 ≤ x2 ∧ x2 < 2147483648)) (h : x2 ≠ (-6)) (k : Ev X 149 84 [fx_f 56, .inl (x1), .inl (x2), .inl ((-6))] [.inl (((M 56 14) - 1)), fx_f 65] M r M') : Ev X 149 64 [fx_f 56, .inl (x1), .inl (x2), v3] [] M r M' := by
  refine Ev.run 11 fd_e149 (i' := 81) (ls' := [fx_f 56, .inl (x1), .inl (x2), .inl ((-6))]) (st' := [.inl ((-6)), .inl (x2), .inl (((M 56 14) - 1)), fx_f 65]) (M1 := M) rfl ?_
  refine Ev.icT fd_e149 rfl g (by decide) (decide_eq_true h) ?_
  exact k
theorem r149_64F {X : fx_Sc} {M M' : fx_M} {r : Option fx_V} {x1 x2 : Int} {v3 : fx_V} (g : (-2147483648 ≤ x2 ∧ x2 < 2147483648)) (h : x2 = (-6)) (k : Ev X 149 82 [fx_f 56, .inl (x1), .inl (x2), .inl ((-6))] [.inl (((M 56 14) - 1)), fx_f 65] M r M') : Ev X 149 64 [fx_f 56, .inl (x1), .inl (x2), v3] [] M r M' := by
  refine Ev.run 11 fd_e149 (i' := 81) (ls' := [fx_f 56, .inl (x1), .inl (x2), .inl ((-6))]) (st' := [.inl ((-6)), .inl (x2), .inl (((M 56 14) - 1)), fx_f 65]) (M1 := M) rfl ?_
  refine Ev.icF fd_e149 rfl g (by decide) (decide_eq_false (not_not_intro h)) ?_
  exact k
theorem r149_66 {X : fx_Sc} {M M' : fx_M} {r : Option fx_V} {x1 x2 z : Int} {v3 : fx_V} {M1 : fx_M} (hc : Ev X 151 0 [fx_f 56, .inl (x1)] [] M (some (.inl z)) M1) (k : Ev X 149 70 [fx_f 56, .inl (x1), .inl (x2), v3] [.inl (z), fx_f 56] M1 r M') : Ev X 149 66 [fx_f 56, .inl (x1), .inl (x2), v3] [] M r M' := by
  refine Ev.run 3 fd_e149 (i' := 69) (ls' := [fx_f 56, .inl (x1), .inl (x2), v3]) (st' := [.inl (x1), fx_f 56, fx_f 56]) (M1 := M) rfl ?_
  refine Ev.callV (vs := [fx_f 56, .inl (x1)]) (rest := [fx_f 56]) (r1 := (some (.inl z))) fd_e149 rfl rfl rfl (Nat.le_of_ble_eq_true rfl) (Nat.le_of_ble_eq_true rfl) rfl hc ?_
  exact k
theorem r149_70 {X : fx_Sc} {M M' : fx_M} {r : Option fx_V} {x1 x2 s1 z : Int} {v3 : fx_V} {M1 : fx_M} (hc : Ev X 152 0 [fx_f 56, .inl (s1), .inl (x1), fx_u, fx_u] [] M (some (.inl z)) M1) (k : Ev X 149 72 [fx_f 56, .inl (x1), .inl (x2), v3] [.inl (z)] M1 r M') : Ev X 149 70 [fx_f 56, .inl (x1), .inl (x2), v3] [.inl (s1), fx_f 56] M r M' := by
  refine Ev.run 1 fd_e149 (i' := 71) (ls' := [fx_f 56, .inl (x1), .inl (x2), v3]) (st' := [.inl (x1), .inl (s1), fx_f 56]) (M1 := M) rfl ?_
  refine Ev.callV (vs := [fx_f 56, .inl (s1), .inl (x1)]) (rest := []) (r1 := (some (.inl z))) fd_e149 rfl rfl rfl (Nat.le_of_ble_eq_true rfl) (Nat.le_of_ble_eq_true rfl) rfl hc ?_
  exact k
theorem r149_72T {X : fx_Sc} {M M' : fx_M} {r : Option fx_V} {x1 x2 s0 : Int} {v3 : fx_V} (g : (-2147483648 ≤ x2 ∧ x2 < 2147483648)) (h : x2 ≠ (-6)) (k : Ev X 149 84 [fx_f 56, .inl (x1), .inl (x2), .inl (s0)] [.inl (((M 56 14) - 1)), fx_f 65] M r M') : Ev X 149 72 [fx_f 56, .inl (x1), .inl (x2), v3] [.inl (s0)] M r M' := by
  refine Ev.run 9 fd_e149 (i' := 81) (ls' := [fx_f 56, .inl (x1), .inl (x2), .inl (s0)]) (st' := [.inl ((-6)), .inl (x2), .inl (((M 56 14) - 1)), fx_f 65]) (M1 := M) rfl ?_
  refine Ev.icT fd_e149 rfl g (by decide) (decide_eq_true h) ?_
  exact k
theorem r149_72F {X : fx_Sc} {M M' : fx_M} {r : Option fx_V} {x1 x2 s0 : Int} {v3 : fx_V} (g : (-2147483648 ≤ x2 ∧ x2 < 2147483648)) (h : x2 = (-6)) (k : Ev X 149 82 [fx_f 56, .inl (x1), .inl (x2), .inl (s0)] [.inl (((M 56 14) - 1)), fx_f 65] M r M') : Ev X 149 72 [fx_f 56, .inl (x1), .inl (x2), v3] [.inl (s0)] M r M' := by
  refine Ev.run 9 fd_e149 (i' := 81) (ls' := [fx_f 56, .inl (x1), .inl (x2), .inl (s0)]) (st' := [.inl ((-6)), .inl (x2), .inl (((M 56 14) - 1)), fx_f 65]) (M1 := M) rfl ?_
  refine Ev.icF fd_e149 rfl g (by decide) (decide_eq_false (not_not_intro h)) ?_
  exact k
theorem r149_82T {X : fx_Sc} {M M' : fx_M} {r : Option fx_V} {x1 x2 x3 s1 : Int} (g : (0 ≤ s1 ∧ s1 < ((72 : Nat) : Int)) ∧ (-2147483648 ≤ x2 ∧ x2 < 2147483648) ∧ (-2147483648 ≤ x3 ∧ x3 < 2147483648)) (h : x3 ≤ x2) (k : Ev X 149 97 [fx_f 56, .inl (x1), .inl (x2), .inl (x3)] [.inl ((((fx_set M 65 (fx_up (M 65) (s1).toNat 1)) 56 14) - 1)), fx_f 67] (fx_set M 65 (fx_up (M 65) (s1).toNat 1)) r M') : Ev X 149 82 [fx_f 56, .inl (x1), .inl (x2), .inl (x3)] [.inl (s1), fx_f 65] M r M' := by
  refine Ev.run 2 fd_e149 (i' := 85) (ls' := [fx_f 56, .inl (x1), .inl (x2), .inl (x3)]) (st' := [.inl (1), .inl (s1), fx_f 65]) (M1 := M) rfl ?_
  refine Ev.iast fd_e149 rfl rfl (by decide) g.1 ?_
  refine Ev.run 8 fd_e149 (i' := 94) (ls' := [fx_f 56, .inl (x1), .inl (x2), .inl (x3)]) (st' := [.inl (x3), .inl (x2), .inl ((((fx_set M 65 (fx_up (M 65) (s1).toNat 1)) 56 14) - 1)), fx_f 67]) (M1 := (fx_set M 65 (fx_up (M 65) (s1).toNat 1))) rfl ?_
  refine Ev.icT fd_e149 rfl g.2.1 g.2.2 (decide_eq_true h) ?_
  exact k
theorem r149_82F {X : fx_Sc} {M M' : fx_M} {r : Option fx_V} {x1 x2 x3 s1 : Int} (g : (0 ≤ s1 ∧ s1 < ((72 : Nat) : Int)) ∧ (-2147483648 ≤ x2 ∧ x2 < 2147483648) ∧ (-2147483648 ≤ x3 ∧ x3 < 2147483648)) (h : x2 < x3) (k : Ev X 149 95 [fx_f 56, .inl (x1), .inl (x2), .inl (x3)] [.inl ((((fx_set M 65 (fx_up (M 65) (s1).toNat 1)) 56 14) - 1)), fx_f 67] (fx_set M 65 (fx_up (M 65) (s1).toNat 1)) r M') : Ev X 149 82 [fx_f 56, .inl (x1), .inl (x2), .inl (x3)] [.inl (s1), fx_f 65] M r M' := by
  refine Ev.run 2 fd_e149 (i' := 85) (ls' := [fx_f 56, .inl (x1), .inl (x2), .inl (x3)]) (st' := [.inl (1), .inl (s1), fx_f 65]) (M1 := M) rfl ?_
  refine Ev.iast fd_e149 rfl rfl (by decide) g.1 ?_
  refine Ev.run 8 fd_e149 (i' := 94) (ls' := [fx_f 56, .inl (x1), .inl (x2), .inl (x3)]) (st' := [.inl (x3), .inl (x2), .inl ((((fx_set M 65 (fx_up (M 65) (s1).toNat 1)) 56 14) - 1)), fx_f 67]) (M1 := (fx_set M 65 (fx_up (M 65) (s1).toNat 1))) rfl ?_
  refine Ev.icF fd_e149 rfl g.2.1 g.2.2 (decide_eq_false (Int.not_le.mpr h)) ?_
  exact k
theorem r149_84T {X : fx_Sc} {M M' : fx_M} {r : Option fx_V} {x1 x2 x3 s1 : Int} (g : (0 ≤ s1 ∧ s1 < ((72 : Nat) : Int)) ∧ (-2147483648 ≤ x2 ∧ x2 < 2147483648) ∧ (-2147483648 ≤ x3 ∧ x3 < 2147483648)) (h : x3 ≤ x2) (k : Ev X 149 97 [fx_f 56, .inl (x1), .inl (x2), .inl (x3)] [.inl ((((fx_set M 65 (fx_up (M 65) (s1).toNat 0)) 56 14) - 1)), fx_f 67] (fx_set M 65 (fx_up (M 65) (s1).toNat 0)) r M') : Ev X 149 84 [fx_f 56, .inl (x1), .inl (x2), .inl (x3)] [.inl (s1), fx_f 65] M r M' := by
  refine Ev.run 1 fd_e149 (i' := 85) (ls' := [fx_f 56, .inl (x1), .inl (x2), .inl (x3)]) (st' := [.inl (0), .inl (s1), fx_f 65]) (M1 := M) rfl ?_
  refine Ev.iast fd_e149 rfl rfl (by decide) g.1 ?_
  refine Ev.run 8 fd_e149 (i' := 94) (ls' := [fx_f 56, .inl (x1), .inl (x2), .inl (x3)]) (st' := [.inl (x3), .inl (x2), .inl ((((fx_set M 65 (fx_up (M 65) (s1).toNat 0)) 56 14) - 1)), fx_f 67]) (M1 := (fx_set M 65 (fx_up (M 65) (s1).toNat 0))) rfl ?_
  refine Ev.icT fd_e149 rfl g.2.1 g.2.2 (decide_eq_true h) ?_
  exact k
theorem r149_84F {X : fx_Sc} {M M' : fx_M} {r : Option fx_V} {x1 x2 x3 s1 : Int} (g : (0 ≤ s1 ∧ s1 < ((72 : Nat) : Int)) ∧ (-2147483648 ≤ x2 ∧ x2 < 2147483648) ∧ (-2147483648 ≤ x3 ∧ x3 < 2147483648)) (h : x2 < x3) (k : Ev X 149 95 [fx_f 56, .inl (x1), .inl (x2), .inl (x3)] [.inl ((((fx_set M 65 (fx_up (M 65) (s1).toNat 0)) 56 14) - 1)), fx_f 67] (fx_set M 65 (fx_up (M 65) (s1).toNat 0)) r M') : Ev X 149 84 [fx_f 56, .inl (x1), .inl (x2), .inl (x3)] [.inl (s1), fx_f 65] M r M' := by
  refine Ev.run 1 fd_e149 (i' := 85) (ls' := [fx_f 56, .inl (x1), .inl (x2), .inl (x3)]) (st' := [.inl (0), .inl (s1), fx_f 65]) (M1 := M) rfl ?_
  refine Ev.iast fd_e149 rfl rfl (by decide) g.1 ?_
  refine Ev.run 8 fd_e149 (i' := 94) (ls' := [fx_f 56, .inl (x1), .inl (x2), .inl (x3)]) (st' := [.inl (x3), .inl (x2), .inl ((((fx_set M 65 (fx_up (M 65) (s1).toNat 0)) 56 14) - 1)), fx_f 67]) (M1 := (fx_set M 65 (fx_up (M 65) (s1).toNat 0))) rfl ?_
  refine Ev.icF fd_e149 rfl g.2.1 g.2.2 (decide_eq_false (Int.not_le.mpr h)) ?_
  exact k
theorem r149_95T {X : fx_Sc} {M M' : fx_M} {r : Option fx_V} {x1 x2 x3 s1 : Int} (g : (0 ≤ s1 ∧ s1 < ((72 : Nat) : Int)) ∧ (-2147483648 ≤ x2 ∧ x2 < 2147483648) ∧ (-2147483648 ≤ x3 ∧ x3 < 2147483648)) (h : x3 ≤ x2) (k : Ev X 149 110 [fx_f 56, .inl (x1), .inl (x2), .inl (x3)] [.inl ((((fx_set M 67 (fx_up (M 67) (s1).toNat x2)) 56 14) - 1)), fx_f 68] (fx_set M 67 (fx_up (M 67) (s1).toNat x2)) r M') : Ev X 149 95 [fx_f 56, .inl (x1), .inl (x2), .inl (x3)] [.inl (s1), fx_f 67] M r M' := by
  refine Ev.run 2 fd_e149 (i' := 98) (ls' := [fx_f 56, .inl (x1), .inl (x2), .inl (x3)]) (st' := [.inl (x2), .inl (s1), fx_f 67]) (M1 := M) rfl ?_
  refine Ev.iast fd_e149 rfl rfl (by decide) g.1 ?_
  refine Ev.run 8 fd_e149 (i' := 107) (ls' := [fx_f 56, .inl (x1), .inl (x2), .inl (x3)]) (st' := [.inl (x3), .inl (x2), .inl ((((fx_set M 67 (fx_up (M 67) (s1).toNat x2)) 56 14) - 1)), fx_f 68]) (M1 := (fx_set M 67 (fx_up (M 67) (s1).toNat x2))) rfl ?_
  refine Ev.icT fd_e149 rfl g.2.1 g.2.2 (decide_eq_true h) ?_
  exact k
theorem r149_95F {X : fx_Sc} {M M' : fx_M} {r : Option fx_V} {x1 x2 x3 s1 : Int} (g : (0 ≤ s1 ∧ s1 < ((72 : Nat) : Int)) ∧ (-2147483648 ≤ x2 ∧ x2 < 2147483648) ∧ (-2147483648 ≤ x3 ∧ x3 < 2147483648)) (h : x2 < x3) (k : Ev X 149 108 [fx_f 56, .inl (x1), .inl (x2), .inl (x3)] [.inl ((((fx_set M 67 (fx_up (M 67) (s1).toNat x2)) 56 14) - 1)), fx_f 68] (fx_set M 67 (fx_up (M 67) (s1).toNat x2)) r M') : Ev X 149 95 [fx_f 56, .inl (x1), .inl (x2), .inl (x3)] [.inl (s1), fx_f 67] M r M' := by
  refine Ev.run 2 fd_e149 (i' := 98) (ls' := [fx_f 56, .inl (x1), .inl (x2), .inl (x3)]) (st' := [.inl (x2), .inl (s1), fx_f 67]) (M1 := M) rfl ?_
  refine Ev.iast fd_e149 rfl rfl (by decide) g.1 ?_
  refine Ev.run 8 fd_e149 (i' := 107) (ls' := [fx_f 56, .inl (x1), .inl (x2), .inl (x3)]) (st' := [.inl (x3), .inl (x2), .inl ((((fx_set M 67 (fx_up (M 67) (s1).toNat x2)) 56 14) - 1)), fx_f 68]) (M1 := (fx_set M 67 (fx_up (M 67) (s1).toNat x2))) rfl ?_
  refine Ev.icF fd_e149 rfl g.2.1 g.2.2 (decide_eq_false (Int.not_le.mpr h)) ?_
  exact k
theorem r149_97T {X : fx_Sc} {M M' : fx_M} {r : Option fx_V} {x1 x2 x3 s1 : Int} (g : (0 ≤ s1 ∧ s1 < ((72 : Nat) : Int)) ∧ (-2147483648 ≤ x2 ∧ x2 < 2147483648) ∧ (-2147483648 ≤ x3 ∧ x3 < 2147483648)) (h : x3 ≤ x2) (k : Ev X 149 110 [fx_f 56, .inl (x1), .inl (x2), .inl (x3)] [.inl ((((fx_set M 67 (fx_up (M 67) (s1).toNat x3)) 56 14) - 1)), fx_f 68] (fx_set M 67 (fx_up (M 67) (s1).toNat x3)) r M') : Ev X 149 97 [fx_f 56, .inl (x1), .inl (x2), .inl (x3)] [.inl (s1), fx_f 67] M r M' := by
  refine Ev.run 1 fd_e149 (i' := 98) (ls' := [fx_f 56, .inl (x1), .inl (x2), .inl (x3)]) (st' := [.inl (x3), .inl (s1), fx_f 67]) (M1 := M) rfl ?_
  refine Ev.iast fd_e149 rfl rfl (by decide) g.1 ?_
  refine Ev.run 8 fd_e149 (i' := 107) (ls' := [fx_f 56, .inl (x1), .inl (x2), .inl (x3)]) (st' := [.inl (x3), .inl (x2), .inl ((((fx_set M 67 (fx_up (M 67) (s1).toNat x3)) 56 14) - 1)), fx_f 68]) (M1 := (fx_set M 67 (fx_up (M 67) (s1).toNat x3))) rfl ?_
  refine Ev.icT fd_e149 rfl g.2.1 g.2.2 (decide_eq_true h) ?_
  exact k
theorem r149_97F {X : fx_Sc} {M M' : fx_M} {r : Option fx_V} {x1 x2 x3 s1 : Int} (g : (0 ≤ s1 ∧ s1 < ((72 : Nat) : Int)) ∧ (-2147483648 ≤ x2 ∧ x2 < 2147483648) ∧ (-2147483648 ≤ x3 ∧ x3 < 2147483648)) (h : x2 < x3) (k : Ev X 149 108 [fx_f 56, .inl (x1), .inl (x2), .inl (x3)] [.inl ((((fx_set M 67 (fx_up (M 67) (s1).toNat x3)) 56 14) - 1)), fx_f 68] (fx_set M 67 (fx_up (M 67) (s1).toNat x3)) r M') : Ev X 149 97 [fx_f 56, .inl (x1), .inl (x2), .inl (x3)] [.inl (s1), fx_f 67] M r M' := by
  refine Ev.run 1 fd_e149 (i' := 98) (ls' := [fx_f 56, .inl (x1), .inl (x2), .inl (x3)]) (st' := [.inl (x3), .inl (s1), fx_f 67]) (M1 := M) rfl ?_
  refine Ev.iast fd_e149 rfl rfl (by decide) g.1 ?_
  refine Ev.run 8 fd_e149 (i' := 107) (ls' := [fx_f 56, .inl (x1), .inl (x2), .inl (x3)]) (st' := [.inl (x3), .inl (x2), .inl ((((fx_set M 67 (fx_up (M 67) (s1).toNat x3)) 56 14) - 1)), fx_f 68]) (M1 := (fx_set M 67 (fx_up (M 67) (s1).toNat x3))) rfl ?_
  refine Ev.icF fd_e149 rfl g.2.1 g.2.2 (decide_eq_false (Int.not_le.mpr h)) ?_
  exact k
theorem r149_108 {X : fx_Sc} {M M' : fx_M} {r : Option fx_V} {x1 x2 x3 s1 : Int} (g : (0 ≤ s1 ∧ s1 < ((72 : Nat) : Int))) (k : Ev X 149 17 [fx_f 56, .inl ((x1 + 1)), .inl (x2), .inl (x3)] [] (fx_set M 68 (fx_up (M 68) (s1).toNat x3)) r M') : Ev X 149 108 [fx_f 56, .inl (x1), .inl (x2), .inl (x3)] [.inl (s1), fx_f 68] M r M' := by
  refine Ev.run 2 fd_e149 (i' := 111) (ls' := [fx_f 56, .inl (x1), .inl (x2), .inl (x3)]) (st' := [.inl (x3), .inl (s1), fx_f 68]) (M1 := M) rfl ?_
  refine Ev.iast fd_e149 rfl rfl (by decide) g ?_
  refine Ev.run 2 fd_e149 (i' := 17) (ls' := [fx_f 56, .inl ((x1 + 1)), .inl (x2), .inl (x3)]) (st' := []) (M1 := (fx_set M 68 (fx_up (M 68) (s1).toNat x3))) rfl ?_
  exact k
theorem r149_110 {X : fx_Sc} {M M' : fx_M} {r : Option fx_V} {x1 x2 x3 s1 : Int} (g : (0 ≤ s1 ∧ s1 < ((72 : Nat) : Int))) (k : Ev X 149 17 [fx_f 56, .inl ((x1 + 1)), .inl (x2), .inl (x3)] [] (fx_set M 68 (fx_up (M 68) (s1).toNat x2)) r M') : Ev X 149 110 [fx_f 56, .inl (x1), .inl (x2), .inl (x3)] [.inl (s1), fx_f 68] M r M' := by
  refine Ev.run 1 fd_e149 (i' := 111) (ls' := [fx_f 56, .inl (x1), .inl (x2), .inl (x3)]) (st' := [.inl (x2), .inl (s1), fx_f 68]) (M1 := M) rfl ?_
  refine Ev.iast fd_e149 rfl rfl (by decide) g ?_
  refine Ev.run 2 fd_e149 (i' := 17) (ls' := [fx_f 56, .inl ((x1 + 1)), .inl (x2), .inl (x3)]) (st' := []) (M1 := (fx_set M 68 (fx_up (M 68) (s1).toNat x2))) rfl ?_
  exact k
theorem r149_112 {X : fx_Sc} {M M' : fx_M} {r : Option fx_V} {x1 : Int} {v2 v3 : fx_V} (k : Ev X 149 17 [fx_f 56, .inl ((x1 + 1)), v2, v3] [] M r M') : Ev X 149 112 [fx_f 56, .inl (x1), v2, v3] [] M r M' := by
  refine Ev.run 2 fd_e149 (i' := 17) (ls' := [fx_f 56, .inl ((x1 + 1)), v2, v3]) (st' := []) (M1 := M) rfl ?_
  exact k
theorem r149_114 {X : fx_Sc} {M : fx_M} {x1 : Int} {v2 v3 : fx_V} : Ev X 149 114 [fx_f 56, .inl (x1), v2, v3] [] M none M := by
  exact Ev.retv fd_e149 rfl rfl
-- 150: FoldedStripsModel.marks(I)V
theorem fd_e150 : fd_C 150 = fd_c150 := rfl
theorem r150_0 {X : fx_Sc} {M M' : fx_M} {r : Option fx_V} {x1 z : Int} {M1 : fx_M} (g : (0 ≤ x1 ∧ x1 < ((144 : Nat) : Int))) (hc : Ev X 151 0 [fx_f 56, .inl (x1)] [] (fx_set M 63 (fx_up (M 63) (x1).toNat (M 56 14))) (some (.inl z)) M1) (k : Ev X 150 11 [fx_f 56, .inl (x1)] [.inl (z), fx_f 63] M1 r M') : Ev X 150 0 [fx_f 56, .inl (x1)] [] M r M' := by
  refine Ev.run 5 fd_e150 (i' := 5) (ls' := [fx_f 56, .inl (x1)]) (st' := [.inl ((M 56 14)), .inl (x1), fx_f 63]) (M1 := M) rfl ?_
  refine Ev.iast fd_e150 rfl rfl (by decide) g ?_
  refine Ev.run 4 fd_e150 (i' := 10) (ls' := [fx_f 56, .inl (x1)]) (st' := [.inl (x1), fx_f 56, fx_f 63]) (M1 := (fx_set M 63 (fx_up (M 63) (x1).toNat (M 56 14)))) rfl ?_
  refine Ev.callV (vs := [fx_f 56, .inl (x1)]) (rest := [fx_f 63]) (r1 := (some (.inl z))) fd_e150 rfl rfl rfl (Nat.le_of_ble_eq_true rfl) (Nat.le_of_ble_eq_true rfl) rfl hc ?_
  exact k
theorem r150_11 {X : fx_Sc} {M : fx_M} {x1 s1 : Int} (g : (0 ≤ s1 ∧ s1 < ((144 : Nat) : Int)) ∧ (0 ≤ (((fx_set M 63 (fx_up (M 63) (s1).toNat (M 56 14))) 56 14) - 1) ∧ (((fx_set M 63 (fx_up (M 63) (s1).toNat (M 56 14))) 56 14) - 1) < ((72 : Nat) : Int)) ∧ (0 ≤ (((fx_set (fx_set M 63 (fx_up (M 63) (s1).toNat (M 56 14))) 64 (fx_up ((fx_set M 63 (fx_up (M 63) (s1).toNat (M 56 14))) 64) ((((fx_set M 63 (fx_up (M 63) (s1).toNat (M 56 14))) 56 14) - 1)).toNat (((fx_set M 63 (fx_up (M 63) (s1).toNat (M 56 14))) 64 ((((fx_set M 63 (fx_up (M 63) (s1).toNat (M 56 14))) 56 14) - 1)).toNat) + 1))) 56 14) - 1) ∧ (((fx_set (fx_set M 63 (fx_up (M 63) (s1).toNat (M 56 14))) 64 (fx_up ((fx_set M 63 (fx_up (M 63) (s1).toNat (M 56 14))) 64) ((((fx_set M 63 (fx_up (M 63) (s1).toNat (M 56 14))) 56 14) - 1)).toNat (((fx_set M 63 (fx_up (M 63) (s1).toNat (M 56 14))) 64 ((((fx_set M 63 (fx_up (M 63) (s1).toNat (M 56 14))) 56 14) - 1)).toNat) + 1))) 56 14) - 1) < ((72 : Nat) : Int))) : Ev X 150 11 [fx_f 56, .inl (x1)] [.inl (s1), fx_f 63] M none (fx_set (fx_set (fx_set M 63 (fx_up (M 63) (s1).toNat (M 56 14))) 64 (fx_up ((fx_set M 63 (fx_up (M 63) (s1).toNat (M 56 14))) 64) ((((fx_set M 63 (fx_up (M 63) (s1).toNat (M 56 14))) 56 14) - 1)).toNat (((fx_set M 63 (fx_up (M 63) (s1).toNat (M 56 14))) 64 ((((fx_set M 63 (fx_up (M 63) (s1).toNat (M 56 14))) 56 14) - 1)).toNat) + 1))) 66 (fx_up ((fx_set (fx_set M 63 (fx_up (M 63) (s1).toNat (M 56 14))) 64 (fx_up ((fx_set M 63 (fx_up (M 63) (s1).toNat (M 56 14))) 64) ((((fx_set M 63 (fx_up (M 63) (s1).toNat (M 56 14))) 56 14) - 1)).toNat (((fx_set M 63 (fx_up (M 63) (s1).toNat (M 56 14))) 64 ((((fx_set M 63 (fx_up (M 63) (s1).toNat (M 56 14))) 56 14) - 1)).toNat) + 1))) 66) ((((fx_set (fx_set M 63 (fx_up (M 63) (s1).toNat (M 56 14))) 64 (fx_up ((fx_set M 63 (fx_up (M 63) (s1).toNat (M 56 14))) 64) ((((fx_set M 63 (fx_up (M 63) (s1).toNat (M 56 14))) 56 14) - 1)).toNat (((fx_set M 63 (fx_up (M 63) (s1).toNat (M 56 14))) 64 ((((fx_set M 63 (fx_up (M 63) (s1).toNat (M 56 14))) 56 14) - 1)).toNat) + 1))) 56 14) - 1)).toNat (fx_or ((fx_set (fx_set M 63 (fx_up (M 63) (s1).toNat (M 56 14))) 64 (fx_up ((fx_set M 63 (fx_up (M 63) (s1).toNat (M 56 14))) 64) ((((fx_set M 63 (fx_up (M 63) (s1).toNat (M 56 14))) 56 14) - 1)).toNat (((fx_set M 63 (fx_up (M 63) (s1).toNat (M 56 14))) 64 ((((fx_set M 63 (fx_up (M 63) (s1).toNat (M 56 14))) 56 14) - 1)).toNat) + 1))) 66 ((((fx_set (fx_set M 63 (fx_up (M 63) (s1).toNat (M 56 14))) 64 (fx_up ((fx_set M 63 (fx_up (M 63) (s1).toNat (M 56 14))) 64) ((((fx_set M 63 (fx_up (M 63) (s1).toNat (M 56 14))) 56 14) - 1)).toNat (((fx_set M 63 (fx_up (M 63) (s1).toNat (M 56 14))) 64 ((((fx_set M 63 (fx_up (M 63) (s1).toNat (M 56 14))) 56 14) - 1)).toNat) + 1))) 56 14) - 1)).toNat) (fx_shl 1 (fx_div x1 24))))) := by
  refine Ev.run 2 fd_e150 (i' := 13) (ls' := [fx_f 56, .inl (x1)]) (st' := [.inl ((M 56 14)), .inl (s1), fx_f 63]) (M1 := M) rfl ?_
  refine Ev.iast fd_e150 rfl rfl (by decide) g.1 ?_
  refine Ev.run 7 fd_e150 (i' := 21) (ls' := [fx_f 56, .inl (x1)]) (st' := [.inl ((((fx_set M 63 (fx_up (M 63) (s1).toNat (M 56 14))) 56 14) - 1)), fx_f 64, .inl ((((fx_set M 63 (fx_up (M 63) (s1).toNat (M 56 14))) 56 14) - 1)), fx_f 64]) (M1 := (fx_set M 63 (fx_up (M 63) (s1).toNat (M 56 14)))) rfl ?_
  refine Ev.iald fd_e150 rfl rfl (by decide) g.2.1 ?_
  refine Ev.run 2 fd_e150 (i' := 24) (ls' := [fx_f 56, .inl (x1)]) (st' := [.inl ((((fx_set M 63 (fx_up (M 63) (s1).toNat (M 56 14))) 64 ((((fx_set M 63 (fx_up (M 63) (s1).toNat (M 56 14))) 56 14) - 1)).toNat) + 1)), .inl ((((fx_set M 63 (fx_up (M 63) (s1).toNat (M 56 14))) 56 14) - 1)), fx_f 64]) (M1 := (fx_set M 63 (fx_up (M 63) (s1).toNat (M 56 14)))) rfl ?_
  refine Ev.iast fd_e150 rfl rfl (by decide) g.2.1 ?_
  refine Ev.run 7 fd_e150 (i' := 32) (ls' := [fx_f 56, .inl (x1)]) (st' := [.inl ((((fx_set (fx_set M 63 (fx_up (M 63) (s1).toNat (M 56 14))) 64 (fx_up ((fx_set M 63 (fx_up (M 63) (s1).toNat (M 56 14))) 64) ((((fx_set M 63 (fx_up (M 63) (s1).toNat (M 56 14))) 56 14) - 1)).toNat (((fx_set M 63 (fx_up (M 63) (s1).toNat (M 56 14))) 64 ((((fx_set M 63 (fx_up (M 63) (s1).toNat (M 56 14))) 56 14) - 1)).toNat) + 1))) 56 14) - 1)), fx_f 66, .inl ((((fx_set (fx_set M 63 (fx_up (M 63) (s1).toNat (M 56 14))) 64 (fx_up ((fx_set M 63 (fx_up (M 63) (s1).toNat (M 56 14))) 64) ((((fx_set M 63 (fx_up (M 63) (s1).toNat (M 56 14))) 56 14) - 1)).toNat (((fx_set M 63 (fx_up (M 63) (s1).toNat (M 56 14))) 64 ((((fx_set M 63 (fx_up (M 63) (s1).toNat (M 56 14))) 56 14) - 1)).toNat) + 1))) 56 14) - 1)), fx_f 66]) (M1 := (fx_set (fx_set M 63 (fx_up (M 63) (s1).toNat (M 56 14))) 64 (fx_up ((fx_set M 63 (fx_up (M 63) (s1).toNat (M 56 14))) 64) ((((fx_set M 63 (fx_up (M 63) (s1).toNat (M 56 14))) 56 14) - 1)).toNat (((fx_set M 63 (fx_up (M 63) (s1).toNat (M 56 14))) 64 ((((fx_set M 63 (fx_up (M 63) (s1).toNat (M 56 14))) 56 14) - 1)).toNat) + 1)))) rfl ?_
  refine Ev.iald fd_e150 rfl rfl (by decide) g.2.2 ?_
  refine Ev.run 3 fd_e150 (i' := 36) (ls' := [fx_f 56, .inl (x1)]) (st' := [.inl (24), .inl (x1), .inl (1), .inl (((fx_set (fx_set M 63 (fx_up (M 63) (s1).toNat (M 56 14))) 64 (fx_up ((fx_set M 63 (fx_up (M 63) (s1).toNat (M 56 14))) 64) ((((fx_set M 63 (fx_up (M 63) (s1).toNat (M 56 14))) 56 14) - 1)).toNat (((fx_set M 63 (fx_up (M 63) (s1).toNat (M 56 14))) 64 ((((fx_set M 63 (fx_up (M 63) (s1).toNat (M 56 14))) 56 14) - 1)).toNat) + 1))) 66 ((((fx_set (fx_set M 63 (fx_up (M 63) (s1).toNat (M 56 14))) 64 (fx_up ((fx_set M 63 (fx_up (M 63) (s1).toNat (M 56 14))) 64) ((((fx_set M 63 (fx_up (M 63) (s1).toNat (M 56 14))) 56 14) - 1)).toNat (((fx_set M 63 (fx_up (M 63) (s1).toNat (M 56 14))) 64 ((((fx_set M 63 (fx_up (M 63) (s1).toNat (M 56 14))) 56 14) - 1)).toNat) + 1))) 56 14) - 1)).toNat)), .inl ((((fx_set (fx_set M 63 (fx_up (M 63) (s1).toNat (M 56 14))) 64 (fx_up ((fx_set M 63 (fx_up (M 63) (s1).toNat (M 56 14))) 64) ((((fx_set M 63 (fx_up (M 63) (s1).toNat (M 56 14))) 56 14) - 1)).toNat (((fx_set M 63 (fx_up (M 63) (s1).toNat (M 56 14))) 64 ((((fx_set M 63 (fx_up (M 63) (s1).toNat (M 56 14))) 56 14) - 1)).toNat) + 1))) 56 14) - 1)), fx_f 66]) (M1 := (fx_set (fx_set M 63 (fx_up (M 63) (s1).toNat (M 56 14))) 64 (fx_up ((fx_set M 63 (fx_up (M 63) (s1).toNat (M 56 14))) 64) ((((fx_set M 63 (fx_up (M 63) (s1).toNat (M 56 14))) 56 14) - 1)).toNat (((fx_set M 63 (fx_up (M 63) (s1).toNat (M 56 14))) 64 ((((fx_set M 63 (fx_up (M 63) (s1).toNat (M 56 14))) 56 14) - 1)).toNat) + 1)))) rfl ?_
  refine Ev.div fd_e150 rfl (by decide) ?_
  refine Ev.run 2 fd_e150 (i' := 39) (ls' := [fx_f 56, .inl (x1)]) (st' := [.inl ((fx_or ((fx_set (fx_set M 63 (fx_up (M 63) (s1).toNat (M 56 14))) 64 (fx_up ((fx_set M 63 (fx_up (M 63) (s1).toNat (M 56 14))) 64) ((((fx_set M 63 (fx_up (M 63) (s1).toNat (M 56 14))) 56 14) - 1)).toNat (((fx_set M 63 (fx_up (M 63) (s1).toNat (M 56 14))) 64 ((((fx_set M 63 (fx_up (M 63) (s1).toNat (M 56 14))) 56 14) - 1)).toNat) + 1))) 66 ((((fx_set (fx_set M 63 (fx_up (M 63) (s1).toNat (M 56 14))) 64 (fx_up ((fx_set M 63 (fx_up (M 63) (s1).toNat (M 56 14))) 64) ((((fx_set M 63 (fx_up (M 63) (s1).toNat (M 56 14))) 56 14) - 1)).toNat (((fx_set M 63 (fx_up (M 63) (s1).toNat (M 56 14))) 64 ((((fx_set M 63 (fx_up (M 63) (s1).toNat (M 56 14))) 56 14) - 1)).toNat) + 1))) 56 14) - 1)).toNat) (fx_shl 1 (fx_div x1 24)))), .inl ((((fx_set (fx_set M 63 (fx_up (M 63) (s1).toNat (M 56 14))) 64 (fx_up ((fx_set M 63 (fx_up (M 63) (s1).toNat (M 56 14))) 64) ((((fx_set M 63 (fx_up (M 63) (s1).toNat (M 56 14))) 56 14) - 1)).toNat (((fx_set M 63 (fx_up (M 63) (s1).toNat (M 56 14))) 64 ((((fx_set M 63 (fx_up (M 63) (s1).toNat (M 56 14))) 56 14) - 1)).toNat) + 1))) 56 14) - 1)), fx_f 66]) (M1 := (fx_set (fx_set M 63 (fx_up (M 63) (s1).toNat (M 56 14))) 64 (fx_up ((fx_set M 63 (fx_up (M 63) (s1).toNat (M 56 14))) 64) ((((fx_set M 63 (fx_up (M 63) (s1).toNat (M 56 14))) 56 14) - 1)).toNat (((fx_set M 63 (fx_up (M 63) (s1).toNat (M 56 14))) 64 ((((fx_set M 63 (fx_up (M 63) (s1).toNat (M 56 14))) 56 14) - 1)).toNat) + 1)))) rfl ?_
  refine Ev.iast fd_e150 rfl rfl (by decide) g.2.2 ?_
  exact Ev.retv fd_e150 rfl rfl
-- 151: FoldedStripsModel.other(I)I
theorem fd_e151 : fd_C 151 = fd_c151 := rfl
theorem r151_0 {X : fx_Sc} {M : fx_M} {x1 : Int} (g : (0 ≤ x1 ∧ x1 < ((150 : Nat) : Int))) : Ev X 151 0 [fx_f 56, .inl (x1)] [] M (some (.inl (((((fx_div x1 24) * 24) + (M 57 (x1).toNat)) - 1)))) M := by
  refine Ev.run 2 fd_e151 (i' := 2) (ls' := [fx_f 56, .inl (x1)]) (st' := [.inl (24), .inl (x1)]) (M1 := M) rfl ?_
  refine Ev.div fd_e151 rfl (by decide) ?_
  refine Ev.run 5 fd_e151 (i' := 8) (ls' := [fx_f 56, .inl (x1)]) (st' := [.inl (x1), fx_f 57, .inl (((fx_div x1 24) * 24))]) (M1 := M) rfl ?_
  refine Ev.iald fd_e151 rfl rfl (by decide) g ?_
  refine Ev.run 3 fd_e151 (i' := 12) (ls' := [fx_f 56, .inl (x1)]) (st' := [.inl (((((fx_div x1 24) * 24) + (M 57 (x1).toNat)) - 1))]) (M1 := M) rfl ?_
  exact Ev.ret1 fd_e151 rfl rfl
-- 152: FoldedStripsModel.follows(II)I
theorem fd_e152 : fd_C 152 = fd_c152 := rfl
theorem r152_0 {X : fx_Sc} {M M' : fx_M} {r : Option fx_V} {x1 x2 : Int} (k : Ev X 152 2 [fx_f 56, .inl (x1), .inl (x2), .inl (x1), fx_u] [] M r M') : Ev X 152 0 [fx_f 56, .inl (x1), .inl (x2), fx_u, fx_u] [] M r M' := by
  refine Ev.run 2 fd_e152 (i' := 2) (ls' := [fx_f 56, .inl (x1), .inl (x2), .inl (x1), fx_u]) (st' := []) (M1 := M) rfl ?_
  exact k
theorem r152_2 {X : fx_Sc} {M M' : fx_M} {r : Option fx_V} {x1 x2 x3 z : Int} {v4 : fx_V} {M1 : fx_M} (hc : Ev X 132 0 [.inl (x3), fx_u] [] M (some (.inl z)) M1) (k : Ev X 152 4 [fx_f 56, .inl (x1), .inl (x2), .inl (x3), v4] [.inl (z)] M1 r M') : Ev X 152 2 [fx_f 56, .inl (x1), .inl (x2), .inl (x3), v4] [] M r M' := by
  refine Ev.run 1 fd_e152 (i' := 3) (ls' := [fx_f 56, .inl (x1), .inl (x2), .inl (x3), v4]) (st' := [.inl (x3)]) (M1 := M) rfl ?_
  refine Ev.callS (vs := [.inl (x3)]) (rest := []) (r1 := (some (.inl z))) fd_e152 rfl rfl rfl (Nat.le_of_ble_eq_true rfl) (Nat.le_of_ble_eq_true rfl) hc ?_
  exact k
theorem r152_4T {X : fx_Sc} {M M' : fx_M} {r : Option fx_V} {x1 x2 x3 s0 : Int} {v4 : fx_V} (g : (-2147483648 ≤ s0 ∧ s0 < 2147483648)) (h : s0 = (-6)) (k : Ev X 152 12 [fx_f 56, .inl (x1), .inl (x2), .inl (x3), .inl (s0)] [] M r M') : Ev X 152 4 [fx_f 56, .inl (x1), .inl (x2), .inl (x3), v4] [.inl (s0)] M r M' := by
  refine Ev.run 3 fd_e152 (i' := 7) (ls' := [fx_f 56, .inl (x1), .inl (x2), .inl (x3), .inl (s0)]) (st' := [.inl ((-6)), .inl (s0)]) (M1 := M) rfl ?_
  refine Ev.icT fd_e152 rfl g (by decide) (decide_eq_true h) ?_
  exact k
theorem r152_4F {X : fx_Sc} {M M' : fx_M} {r : Option fx_V} {x1 x2 x3 s0 : Int} {v4 : fx_V} (g : (-2147483648 ≤ s0 ∧ s0 < 2147483648)) (h : s0 ≠ (-6)) (k : Ev X 152 8 [fx_f 56, .inl (x1), .inl (x2), .inl (x3), .inl (s0)] [] M r M') : Ev X 152 4 [fx_f 56, .inl (x1), .inl (x2), .inl (x3), v4] [.inl (s0)] M r M' := by
  refine Ev.run 3 fd_e152 (i' := 7) (ls' := [fx_f 56, .inl (x1), .inl (x2), .inl (x3), .inl (s0)]) (st' := [.inl ((-6)), .inl (s0)]) (M1 := M) rfl ?_
  refine Ev.icF fd_e152 rfl g (by decide) (decide_eq_false h) ?_
  exact k
theorem r152_8 {X : fx_Sc} {M M' : fx_M} {r : Option fx_V} {x1 x2 x3 x4 z : Int} {M1 : fx_M} (hc : Ev X 118 0 [fx_f 56, .inl (x4)] [] M (some (.inl z)) M1) (k : Ev X 152 11 [fx_f 56, .inl (x1), .inl (x2), .inl (x3), .inl (x4)] [.inl (z)] M1 r M') : Ev X 152 8 [fx_f 56, .inl (x1), .inl (x2), .inl (x3), .inl (x4)] [] M r M' := by
  refine Ev.run 2 fd_e152 (i' := 10) (ls' := [fx_f 56, .inl (x1), .inl (x2), .inl (x3), .inl (x4)]) (st' := [.inl (x4), fx_f 56]) (M1 := M) rfl ?_
  refine Ev.callV (vs := [fx_f 56, .inl (x4)]) (rest := []) (r1 := (some (.inl z))) fd_e152 rfl rfl rfl (Nat.le_of_ble_eq_true rfl) (Nat.le_of_ble_eq_true rfl) rfl hc ?_
  exact k
theorem r152_11T {X : fx_Sc} {M M' : fx_M} {r : Option fx_V} {x1 x2 x3 x4 s0 : Int} (g : (-2147483648 ≤ s0 ∧ s0 < 2147483648)) (h : s0 ≠ 0) (k : Ev X 152 14 [fx_f 56, .inl (x1), .inl (x2), .inl (x3), .inl (x4)] [] M r M') : Ev X 152 11 [fx_f 56, .inl (x1), .inl (x2), .inl (x3), .inl (x4)] [.inl (s0)] M r M' := by
  refine Ev.ifT fd_e152 rfl g (decide_eq_true h) ?_
  exact k
theorem r152_11F {X : fx_Sc} {M M' : fx_M} {r : Option fx_V} {x1 x2 x3 x4 s0 : Int} (g : (-2147483648 ≤ s0 ∧ s0 < 2147483648)) (h : s0 = 0) (k : Ev X 152 12 [fx_f 56, .inl (x1), .inl (x2), .inl (x3), .inl (x4)] [] M r M') : Ev X 152 11 [fx_f 56, .inl (x1), .inl (x2), .inl (x3), .inl (x4)] [.inl (s0)] M r M' := by
  refine Ev.ifF fd_e152 rfl g (decide_eq_false (not_not_intro h)) ?_
  exact k
theorem r152_12 {X : fx_Sc} {M : fx_M} {x1 x2 x3 x4 : Int} : Ev X 152 12 [fx_f 56, .inl (x1), .inl (x2), .inl (x3), .inl (x4)] [] M (some (.inl (x3))) M := by
  refine Ev.run 1 fd_e152 (i' := 13) (ls' := [fx_f 56, .inl (x1), .inl (x2), .inl (x3), .inl (x4)]) (st' := [.inl (x3)]) (M1 := M) rfl ?_
  exact Ev.ret1 fd_e152 rfl rfl
theorem r152_14T {X : fx_Sc} {M M' : fx_M} {r : Option fx_V} {x1 x2 x3 x4 : Int} (g : (-2147483648 ≤ x4 ∧ x4 < 2147483648) ∧ (-2147483648 ≤ x2 ∧ x2 < 2147483648)) (h : x4 ≠ x2) (k : Ev X 152 19 [fx_f 56, .inl (x1), .inl (x2), .inl (x3), .inl (x4)] [] M r M') : Ev X 152 14 [fx_f 56, .inl (x1), .inl (x2), .inl (x3), .inl (x4)] [] M r M' := by
  refine Ev.run 2 fd_e152 (i' := 16) (ls' := [fx_f 56, .inl (x1), .inl (x2), .inl (x3), .inl (x4)]) (st' := [.inl (x2), .inl (x4)]) (M1 := M) rfl ?_
  refine Ev.icT fd_e152 rfl g.1 g.2 (decide_eq_true h) ?_
  exact k
theorem r152_14F {X : fx_Sc} {M M' : fx_M} {r : Option fx_V} {x1 x2 x3 x4 : Int} (g : (-2147483648 ≤ x4 ∧ x4 < 2147483648) ∧ (-2147483648 ≤ x2 ∧ x2 < 2147483648)) (h : x4 = x2) (k : Ev X 152 17 [fx_f 56, .inl (x1), .inl (x2), .inl (x3), .inl (x4)] [] M r M') : Ev X 152 14 [fx_f 56, .inl (x1), .inl (x2), .inl (x3), .inl (x4)] [] M r M' := by
  refine Ev.run 2 fd_e152 (i' := 16) (ls' := [fx_f 56, .inl (x1), .inl (x2), .inl (x3), .inl (x4)]) (st' := [.inl (x2), .inl (x4)]) (M1 := M) rfl ?_
  refine Ev.icF fd_e152 rfl g.1 g.2 (decide_eq_false (not_not_intro h)) ?_
  exact k
theorem r152_17 {X : fx_Sc} {M : fx_M} {x1 x2 x3 x4 : Int} : Ev X 152 17 [fx_f 56, .inl (x1), .inl (x2), .inl (x3), .inl (x4)] [] M (some (.inl ((-6)))) M := by
  refine Ev.run 1 fd_e152 (i' := 18) (ls' := [fx_f 56, .inl (x1), .inl (x2), .inl (x3), .inl (x4)]) (st' := [.inl ((-6))]) (M1 := M) rfl ?_
  exact Ev.ret1 fd_e152 rfl rfl
theorem r152_19 {X : fx_Sc} {M M' : fx_M} {r : Option fx_V} {x1 x2 x3 x4 : Int} {M1 : fx_M} (hc : Ev X 150 0 [fx_f 56, .inl (x4)] [] M none M1) (k : Ev X 152 22 [fx_f 56, .inl (x1), .inl (x2), .inl (x3), .inl (x4)] [] M1 r M') : Ev X 152 19 [fx_f 56, .inl (x1), .inl (x2), .inl (x3), .inl (x4)] [] M r M' := by
  refine Ev.run 2 fd_e152 (i' := 21) (ls' := [fx_f 56, .inl (x1), .inl (x2), .inl (x3), .inl (x4)]) (st' := [.inl (x4), fx_f 56]) (M1 := M) rfl ?_
  refine Ev.callV (vs := [fx_f 56, .inl (x4)]) (rest := []) (r1 := none) fd_e152 rfl rfl rfl (Nat.le_of_ble_eq_true rfl) (Nat.le_of_ble_eq_true rfl) rfl hc ?_
  exact k
theorem r152_22 {X : fx_Sc} {M M' : fx_M} {r : Option fx_V} {x1 x2 x3 x4 z : Int} {M1 : fx_M} (hc : Ev X 151 0 [fx_f 56, .inl (x4)] [] M (some (.inl z)) M1) (k : Ev X 152 25 [fx_f 56, .inl (x1), .inl (x2), .inl (x3), .inl (x4)] [.inl (z)] M1 r M') : Ev X 152 22 [fx_f 56, .inl (x1), .inl (x2), .inl (x3), .inl (x4)] [] M r M' := by
  refine Ev.run 2 fd_e152 (i' := 24) (ls' := [fx_f 56, .inl (x1), .inl (x2), .inl (x3), .inl (x4)]) (st' := [.inl (x4), fx_f 56]) (M1 := M) rfl ?_
  refine Ev.callV (vs := [fx_f 56, .inl (x4)]) (rest := []) (r1 := (some (.inl z))) fd_e152 rfl rfl rfl (Nat.le_of_ble_eq_true rfl) (Nat.le_of_ble_eq_true rfl) rfl hc ?_
  exact k
theorem r152_25 {X : fx_Sc} {M M' : fx_M} {r : Option fx_V} {x1 x2 x3 x4 s0 : Int} (k : Ev X 152 2 [fx_f 56, .inl (x1), .inl (x2), .inl (s0), .inl (x4)] [] M r M') : Ev X 152 25 [fx_f 56, .inl (x1), .inl (x2), .inl (x3), .inl (x4)] [.inl (s0)] M r M' := by
  refine Ev.run 2 fd_e152 (i' := 2) (ls' := [fx_f 56, .inl (x1), .inl (x2), .inl (s0), .inl (x4)]) (st' := []) (M1 := M) rfl ?_
  exact k
-- 153: FoldedStripsModel.crossing(I)I
theorem fd_e153 : fd_C 153 = fd_c153 := rfl
theorem r153_0 {X : fx_Sc} {M M' : fx_M} {r : Option fx_V} {x1 : Int} (g : (0 ≤ x1 ∧ x1 < ((150 : Nat) : Int))) (k : Ev X 153 19 [fx_f 56, .inl (x1), .inl ((fx_div x1 24)), .inl ((fx_rem x1 24)), .inl (((M 57 (x1).toNat) - 1)), .inl (0), .inl (0), fx_u, fx_u] [] M r M') : Ev X 153 0 [fx_f 56, .inl (x1), fx_u, fx_u, fx_u, fx_u, fx_u, fx_u, fx_u] [] M r M' := by
  refine Ev.run 2 fd_e153 (i' := 2) (ls' := [fx_f 56, .inl (x1), fx_u, fx_u, fx_u, fx_u, fx_u, fx_u, fx_u]) (st' := [.inl (24), .inl (x1)]) (M1 := M) rfl ?_
  refine Ev.div fd_e153 rfl (by decide) ?_
  refine Ev.run 3 fd_e153 (i' := 6) (ls' := [fx_f 56, .inl (x1), .inl ((fx_div x1 24)), fx_u, fx_u, fx_u, fx_u, fx_u, fx_u]) (st' := [.inl (24), .inl (x1)]) (M1 := M) rfl ?_
  refine Ev.rem fd_e153 rfl (by decide) ?_
  refine Ev.run 4 fd_e153 (i' := 11) (ls' := [fx_f 56, .inl (x1), .inl ((fx_div x1 24)), .inl ((fx_rem x1 24)), fx_u, fx_u, fx_u, fx_u, fx_u]) (st' := [.inl (x1), fx_f 57]) (M1 := M) rfl ?_
  refine Ev.iald fd_e153 rfl rfl (by decide) g ?_
  refine Ev.run 7 fd_e153 (i' := 19) (ls' := [fx_f 56, .inl (x1), .inl ((fx_div x1 24)), .inl ((fx_rem x1 24)), .inl (((M 57 (x1).toNat) - 1)), .inl (0), .inl (0), fx_u, fx_u]) (st' := []) (M1 := M) rfl ?_
  exact k
theorem r153_19T {X : fx_Sc} {M M' : fx_M} {r : Option fx_V} {x1 x2 x3 x4 x5 x6 : Int} {v7 v8 : fx_V} (g : (-2147483648 ≤ x6 ∧ x6 < 2147483648)) (h : 24 ≤ x6) (k : Ev X 153 65 [fx_f 56, .inl (x1), .inl (x2), .inl (x3), .inl (x4), .inl (x5), .inl (x6), v7, v8] [] M r M') : Ev X 153 19 [fx_f 56, .inl (x1), .inl (x2), .inl (x3), .inl (x4), .inl (x5), .inl (x6), v7, v8] [] M r M' := by
  refine Ev.run 2 fd_e153 (i' := 21) (ls' := [fx_f 56, .inl (x1), .inl (x2), .inl (x3), .inl (x4), .inl (x5), .inl (x6), v7, v8]) (st' := [.inl (24), .inl (x6)]) (M1 := M) rfl ?_
  refine Ev.icT fd_e153 rfl g (by decide) (decide_eq_true h) ?_
  exact k
theorem r153_19F {X : fx_Sc} {M M' : fx_M} {r : Option fx_V} {x1 x2 x3 x4 x5 x6 : Int} {v7 v8 : fx_V} (g : (-2147483648 ≤ x6 ∧ x6 < 2147483648)) (h : x6 < 24) (k : Ev X 153 22 [fx_f 56, .inl (x1), .inl (x2), .inl (x3), .inl (x4), .inl (x5), .inl (x6), v7, v8] [] M r M') : Ev X 153 19 [fx_f 56, .inl (x1), .inl (x2), .inl (x3), .inl (x4), .inl (x5), .inl (x6), v7, v8] [] M r M' := by
  refine Ev.run 2 fd_e153 (i' := 21) (ls' := [fx_f 56, .inl (x1), .inl (x2), .inl (x3), .inl (x4), .inl (x5), .inl (x6), v7, v8]) (st' := [.inl (24), .inl (x6)]) (M1 := M) rfl ?_
  refine Ev.icF fd_e153 rfl g (by decide) (decide_eq_false (Int.not_le.mpr h)) ?_
  exact k
theorem r153_22T {X : fx_Sc} {M M' : fx_M} {r : Option fx_V} {x1 x2 x3 x4 x5 x6 : Int} {v7 v8 : fx_V} (g : (0 ≤ ((24 * x2) + x6) ∧ ((24 * x2) + x6) < ((150 : Nat) : Int)) ∧ (-2147483648 ≤ ((M 57 (((24 * x2) + x6)).toNat) - 1) ∧ ((M 57 (((24 * x2) + x6)).toNat) - 1) < 2147483648) ∧ (-2147483648 ≤ x6 ∧ x6 < 2147483648)) (h : ((M 57 (((24 * x2) + x6)).toNat) - 1) ≤ x6) (k : Ev X 153 44 [fx_f 56, .inl (x1), .inl (x2), .inl (x3), .inl (x4), .inl (x5), .inl (x6), .inl (((M 57 (((24 * x2) + x6)).toNat) - 1)), v8] [] M r M') : Ev X 153 22 [fx_f 56, .inl (x1), .inl (x2), .inl (x3), .inl (x4), .inl (x5), .inl (x6), v7, v8] [] M r M' := by
  refine Ev.run 7 fd_e153 (i' := 29) (ls' := [fx_f 56, .inl (x1), .inl (x2), .inl (x3), .inl (x4), .inl (x5), .inl (x6), v7, v8]) (st' := [.inl (((24 * x2) + x6)), fx_f 57]) (M1 := M) rfl ?_
  refine Ev.iald fd_e153 rfl rfl (by decide) g.1 ?_
  refine Ev.run 5 fd_e153 (i' := 35) (ls' := [fx_f 56, .inl (x1), .inl (x2), .inl (x3), .inl (x4), .inl (x5), .inl (x6), .inl (((M 57 (((24 * x2) + x6)).toNat) - 1)), v8]) (st' := [.inl (x6), .inl (((M 57 (((24 * x2) + x6)).toNat) - 1))]) (M1 := M) rfl ?_
  refine Ev.icT fd_e153 rfl g.2.1 g.2.2 (decide_eq_true h) ?_
  exact k
theorem r153_22F {X : fx_Sc} {M M' : fx_M} {r : Option fx_V} {x1 x2 x3 x4 x5 x6 : Int} {v7 v8 : fx_V} (g : (0 ≤ ((24 * x2) + x6) ∧ ((24 * x2) + x6) < ((150 : Nat) : Int)) ∧ (-2147483648 ≤ ((M 57 (((24 * x2) + x6)).toNat) - 1) ∧ ((M 57 (((24 * x2) + x6)).toNat) - 1) < 2147483648) ∧ (-2147483648 ≤ x6 ∧ x6 < 2147483648)) (h : x6 < ((M 57 (((24 * x2) + x6)).toNat) - 1)) (k : Ev X 153 36 [fx_f 56, .inl (x1), .inl (x2), .inl (x3), .inl (x4), .inl (x5), .inl (x6), .inl (((M 57 (((24 * x2) + x6)).toNat) - 1)), v8] [] M r M') : Ev X 153 22 [fx_f 56, .inl (x1), .inl (x2), .inl (x3), .inl (x4), .inl (x5), .inl (x6), v7, v8] [] M r M' := by
  refine Ev.run 7 fd_e153 (i' := 29) (ls' := [fx_f 56, .inl (x1), .inl (x2), .inl (x3), .inl (x4), .inl (x5), .inl (x6), v7, v8]) (st' := [.inl (((24 * x2) + x6)), fx_f 57]) (M1 := M) rfl ?_
  refine Ev.iald fd_e153 rfl rfl (by decide) g.1 ?_
  refine Ev.run 5 fd_e153 (i' := 35) (ls' := [fx_f 56, .inl (x1), .inl (x2), .inl (x3), .inl (x4), .inl (x5), .inl (x6), .inl (((M 57 (((24 * x2) + x6)).toNat) - 1)), v8]) (st' := [.inl (x6), .inl (((M 57 (((24 * x2) + x6)).toNat) - 1))]) (M1 := M) rfl ?_
  refine Ev.icF fd_e153 rfl g.2.1 g.2.2 (decide_eq_false (Int.not_le.mpr h)) ?_
  exact k
theorem r153_36T {X : fx_Sc} {M M' : fx_M} {r : Option fx_V} {x1 x2 x3 x4 x5 x6 x7 : Int} {v8 : fx_V} (g : (-2147483648 ≤ x6 ∧ x6 < 2147483648) ∧ (-2147483648 ≤ x3 ∧ x3 < 2147483648)) (h : x6 = x3) (k : Ev X 153 44 [fx_f 56, .inl (x1), .inl (x2), .inl (x3), .inl (x4), .inl (x5), .inl (x6), .inl (x7), v8] [] M r M') : Ev X 153 36 [fx_f 56, .inl (x1), .inl (x2), .inl (x3), .inl (x4), .inl (x5), .inl (x6), .inl (x7), v8] [] M r M' := by
  refine Ev.run 2 fd_e153 (i' := 38) (ls' := [fx_f 56, .inl (x1), .inl (x2), .inl (x3), .inl (x4), .inl (x5), .inl (x6), .inl (x7), v8]) (st' := [.inl (x3), .inl (x6)]) (M1 := M) rfl ?_
  refine Ev.icT fd_e153 rfl g.1 g.2 (decide_eq_true h) ?_
  exact k
theorem r153_36F {X : fx_Sc} {M M' : fx_M} {r : Option fx_V} {x1 x2 x3 x4 x5 x6 x7 : Int} {v8 : fx_V} (g : (-2147483648 ≤ x6 ∧ x6 < 2147483648) ∧ (-2147483648 ≤ x3 ∧ x3 < 2147483648)) (h : x6 ≠ x3) (k : Ev X 153 39 [fx_f 56, .inl (x1), .inl (x2), .inl (x3), .inl (x4), .inl (x5), .inl (x6), .inl (x7), v8] [] M r M') : Ev X 153 36 [fx_f 56, .inl (x1), .inl (x2), .inl (x3), .inl (x4), .inl (x5), .inl (x6), .inl (x7), v8] [] M r M' := by
  refine Ev.run 2 fd_e153 (i' := 38) (ls' := [fx_f 56, .inl (x1), .inl (x2), .inl (x3), .inl (x4), .inl (x5), .inl (x6), .inl (x7), v8]) (st' := [.inl (x3), .inl (x6)]) (M1 := M) rfl ?_
  refine Ev.icF fd_e153 rfl g.1 g.2 (decide_eq_false h) ?_
  exact k
theorem r153_39T {X : fx_Sc} {M M' : fx_M} {r : Option fx_V} {x1 x2 x3 x4 x5 x6 x7 : Int} {v8 : fx_V} (g : (-2147483648 ≤ x6 ∧ x6 < 2147483648) ∧ (-2147483648 ≤ x4 ∧ x4 < 2147483648)) (h : x6 = x4) (k : Ev X 153 44 [fx_f 56, .inl (x1), .inl (x2), .inl (x3), .inl (x4), .inl (x5), .inl (x6), .inl (x7), v8] [] M r M') : Ev X 153 39 [fx_f 56, .inl (x1), .inl (x2), .inl (x3), .inl (x4), .inl (x5), .inl (x6), .inl (x7), v8] [] M r M' := by
  refine Ev.run 2 fd_e153 (i' := 41) (ls' := [fx_f 56, .inl (x1), .inl (x2), .inl (x3), .inl (x4), .inl (x5), .inl (x6), .inl (x7), v8]) (st' := [.inl (x4), .inl (x6)]) (M1 := M) rfl ?_
  refine Ev.icT fd_e153 rfl g.1 g.2 (decide_eq_true h) ?_
  exact k
theorem r153_39F {X : fx_Sc} {M M' : fx_M} {r : Option fx_V} {x1 x2 x3 x4 x5 x6 x7 : Int} {v8 : fx_V} (g : (-2147483648 ≤ x6 ∧ x6 < 2147483648) ∧ (-2147483648 ≤ x4 ∧ x4 < 2147483648)) (h : x6 ≠ x4) (k : Ev X 153 42 [fx_f 56, .inl (x1), .inl (x2), .inl (x3), .inl (x4), .inl (x5), .inl (x6), .inl (x7), v8] [] M r M') : Ev X 153 39 [fx_f 56, .inl (x1), .inl (x2), .inl (x3), .inl (x4), .inl (x5), .inl (x6), .inl (x7), v8] [] M r M' := by
  refine Ev.run 2 fd_e153 (i' := 41) (ls' := [fx_f 56, .inl (x1), .inl (x2), .inl (x3), .inl (x4), .inl (x5), .inl (x6), .inl (x7), v8]) (st' := [.inl (x4), .inl (x6)]) (M1 := M) rfl ?_
  refine Ev.icF fd_e153 rfl g.1 g.2 (decide_eq_false h) ?_
  exact k
theorem r153_42 {X : fx_Sc} {M M' : fx_M} {r : Option fx_V} {x1 x2 x3 x4 x5 x6 x7 z : Int} {v8 : fx_V} {M1 : fx_M} (hc : Ev X 154 0 [.inl (x6), .inl (x3), .inl (x4), fx_u, fx_u, fx_u, fx_u] [] M (some (.inl z)) M1) (k : Ev X 153 53 [fx_f 56, .inl (x1), .inl (x2), .inl (x3), .inl (x4), .inl (x5), .inl (x6), .inl (x7), .inl (1)] [.inl (z), .inl (x5)] M1 r M') : Ev X 153 42 [fx_f 56, .inl (x1), .inl (x2), .inl (x3), .inl (x4), .inl (x5), .inl (x6), .inl (x7), v8] [] M r M' := by
  refine Ev.run 5 fd_e153 (i' := 48) (ls' := [fx_f 56, .inl (x1), .inl (x2), .inl (x3), .inl (x4), .inl (x5), .inl (x6), .inl (x7), .inl (1)]) (st' := [.inl (1), .inl (x5)]) (M1 := M) rfl ?_
  refine Ev.ifF fd_e153 rfl (by decide) (by decide) ?_
  refine Ev.run 3 fd_e153 (i' := 52) (ls' := [fx_f 56, .inl (x1), .inl (x2), .inl (x3), .inl (x4), .inl (x5), .inl (x6), .inl (x7), .inl (1)]) (st' := [.inl (x4), .inl (x3), .inl (x6), .inl (x5)]) (M1 := M) rfl ?_
  refine Ev.callS (vs := [.inl (x6), .inl (x3), .inl (x4)]) (rest := [.inl (x5)]) (r1 := (some (.inl z))) fd_e153 rfl rfl rfl (Nat.le_of_ble_eq_true rfl) (Nat.le_of_ble_eq_true rfl) hc ?_
  exact k
theorem r153_44 {X : fx_Sc} {M M' : fx_M} {r : Option fx_V} {x1 x2 x3 x4 x5 x6 x7 : Int} {v8 : fx_V} (k : Ev X 153 19 [fx_f 56, .inl (x1), .inl (x2), .inl (x3), .inl (x4), .inl ((x5 + 0)), .inl ((x6 + 1)), .inl (x7), .inl (0)] [] M r M') : Ev X 153 44 [fx_f 56, .inl (x1), .inl (x2), .inl (x3), .inl (x4), .inl (x5), .inl (x6), .inl (x7), v8] [] M r M' := by
  refine Ev.run 4 fd_e153 (i' := 48) (ls' := [fx_f 56, .inl (x1), .inl (x2), .inl (x3), .inl (x4), .inl (x5), .inl (x6), .inl (x7), .inl (0)]) (st' := [.inl (0), .inl (x5)]) (M1 := M) rfl ?_
  refine Ev.ifT fd_e153 rfl (by decide) (by decide) ?_
  refine Ev.run 5 fd_e153 (i' := 19) (ls' := [fx_f 56, .inl (x1), .inl (x2), .inl (x3), .inl (x4), .inl ((x5 + 0)), .inl ((x6 + 1)), .inl (x7), .inl (0)]) (st' := []) (M1 := M) rfl ?_
  exact k
theorem r153_49 {X : fx_Sc} {M M' : fx_M} {r : Option fx_V} {x1 x2 x3 x4 x5 x6 x7 x8 s0 z : Int} {M1 : fx_M} (hc : Ev X 154 0 [.inl (x6), .inl (x3), .inl (x4), fx_u, fx_u, fx_u, fx_u] [] M (some (.inl z)) M1) (k : Ev X 153 53 [fx_f 56, .inl (x1), .inl (x2), .inl (x3), .inl (x4), .inl (x5), .inl (x6), .inl (x7), .inl (x8)] [.inl (z), .inl (s0)] M1 r M') : Ev X 153 49 [fx_f 56, .inl (x1), .inl (x2), .inl (x3), .inl (x4), .inl (x5), .inl (x6), .inl (x7), .inl (x8)] [.inl (s0)] M r M' := by
  refine Ev.run 3 fd_e153 (i' := 52) (ls' := [fx_f 56, .inl (x1), .inl (x2), .inl (x3), .inl (x4), .inl (x5), .inl (x6), .inl (x7), .inl (x8)]) (st' := [.inl (x4), .inl (x3), .inl (x6), .inl (s0)]) (M1 := M) rfl ?_
  refine Ev.callS (vs := [.inl (x6), .inl (x3), .inl (x4)]) (rest := [.inl (s0)]) (r1 := (some (.inl z))) fd_e153 rfl rfl rfl (Nat.le_of_ble_eq_true rfl) (Nat.le_of_ble_eq_true rfl) hc ?_
  exact k
theorem r153_53 {X : fx_Sc} {M M' : fx_M} {r : Option fx_V} {x1 x2 x3 x4 x5 x6 x7 x8 s0 s1 z : Int} {M1 : fx_M} (hc : Ev X 154 0 [.inl (x7), .inl (x3), .inl (x4), fx_u, fx_u, fx_u, fx_u] [] M (some (.inl z)) M1) (k : Ev X 153 57 [fx_f 56, .inl (x1), .inl (x2), .inl (x3), .inl (x4), .inl (x5), .inl (x6), .inl (x7), .inl (x8)] [.inl (z), .inl (s1), .inl (s0)] M1 r M') : Ev X 153 53 [fx_f 56, .inl (x1), .inl (x2), .inl (x3), .inl (x4), .inl (x5), .inl (x6), .inl (x7), .inl (x8)] [.inl (s1), .inl (s0)] M r M' := by
  refine Ev.run 3 fd_e153 (i' := 56) (ls' := [fx_f 56, .inl (x1), .inl (x2), .inl (x3), .inl (x4), .inl (x5), .inl (x6), .inl (x7), .inl (x8)]) (st' := [.inl (x4), .inl (x3), .inl (x7), .inl (s1), .inl (s0)]) (M1 := M) rfl ?_
  refine Ev.callS (vs := [.inl (x7), .inl (x3), .inl (x4)]) (rest := [.inl (s1), .inl (s0)]) (r1 := (some (.inl z))) fd_e153 rfl rfl rfl (Nat.le_of_ble_eq_true rfl) (Nat.le_of_ble_eq_true rfl) hc ?_
  exact k
theorem r153_57T {X : fx_Sc} {M M' : fx_M} {r : Option fx_V} {x1 x2 x3 x4 x5 x6 x7 x8 s0 s1 s2 : Int} (g : (-2147483648 ≤ s1 ∧ s1 < 2147483648) ∧ (-2147483648 ≤ s2 ∧ s2 < 2147483648)) (h : s1 = s2) (k : Ev X 153 60 [fx_f 56, .inl (x1), .inl (x2), .inl (x3), .inl (x4), .inl (x5), .inl (x6), .inl (x7), .inl (x8)] [.inl (s0)] M r M') : Ev X 153 57 [fx_f 56, .inl (x1), .inl (x2), .inl (x3), .inl (x4), .inl (x5), .inl (x6), .inl (x7), .inl (x8)] [.inl (s2), .inl (s1), .inl (s0)] M r M' := by
  refine Ev.icT fd_e153 rfl g.1 g.2 (decide_eq_true h) ?_
  exact k
theorem r153_57F {X : fx_Sc} {M M' : fx_M} {r : Option fx_V} {x1 x2 x3 x4 x5 x6 x7 x8 s0 s1 s2 : Int} (g : (-2147483648 ≤ s1 ∧ s1 < 2147483648) ∧ (-2147483648 ≤ s2 ∧ s2 < 2147483648)) (h : s1 ≠ s2) (k : Ev X 153 58 [fx_f 56, .inl (x1), .inl (x2), .inl (x3), .inl (x4), .inl (x5), .inl (x6), .inl (x7), .inl (x8)] [.inl (s0)] M r M') : Ev X 153 57 [fx_f 56, .inl (x1), .inl (x2), .inl (x3), .inl (x4), .inl (x5), .inl (x6), .inl (x7), .inl (x8)] [.inl (s2), .inl (s1), .inl (s0)] M r M' := by
  refine Ev.icF fd_e153 rfl g.1 g.2 (decide_eq_false h) ?_
  exact k
theorem r153_58 {X : fx_Sc} {M M' : fx_M} {r : Option fx_V} {x1 x2 x3 x4 x5 x6 x7 x8 s0 : Int} (k : Ev X 153 19 [fx_f 56, .inl (x1), .inl (x2), .inl (x3), .inl (x4), .inl ((s0 + 1)), .inl ((x6 + 1)), .inl (x7), .inl (x8)] [] M r M') : Ev X 153 58 [fx_f 56, .inl (x1), .inl (x2), .inl (x3), .inl (x4), .inl (x5), .inl (x6), .inl (x7), .inl (x8)] [.inl (s0)] M r M' := by
  refine Ev.run 6 fd_e153 (i' := 19) (ls' := [fx_f 56, .inl (x1), .inl (x2), .inl (x3), .inl (x4), .inl ((s0 + 1)), .inl ((x6 + 1)), .inl (x7), .inl (x8)]) (st' := []) (M1 := M) rfl ?_
  exact k
theorem r153_60 {X : fx_Sc} {M M' : fx_M} {r : Option fx_V} {x1 x2 x3 x4 x5 x6 x7 x8 s0 : Int} (k : Ev X 153 19 [fx_f 56, .inl (x1), .inl (x2), .inl (x3), .inl (x4), .inl ((s0 + 0)), .inl ((x6 + 1)), .inl (x7), .inl (x8)] [] M r M') : Ev X 153 60 [fx_f 56, .inl (x1), .inl (x2), .inl (x3), .inl (x4), .inl (x5), .inl (x6), .inl (x7), .inl (x8)] [.inl (s0)] M r M' := by
  refine Ev.run 5 fd_e153 (i' := 19) (ls' := [fx_f 56, .inl (x1), .inl (x2), .inl (x3), .inl (x4), .inl ((s0 + 0)), .inl ((x6 + 1)), .inl (x7), .inl (x8)]) (st' := []) (M1 := M) rfl ?_
  exact k
theorem r153_65 {X : fx_Sc} {M : fx_M} {x1 x2 x3 x4 x5 x6 : Int} {v7 v8 : fx_V} : Ev X 153 65 [fx_f 56, .inl (x1), .inl (x2), .inl (x3), .inl (x4), .inl (x5), .inl (x6), v7, v8] [] M (some (.inl (x5))) M := by
  refine Ev.run 1 fd_e153 (i' := 66) (ls' := [fx_f 56, .inl (x1), .inl (x2), .inl (x3), .inl (x4), .inl (x5), .inl (x6), v7, v8]) (st' := [.inl (x5)]) (M1 := M) rfl ?_
  exact Ev.ret1 fd_e153 rfl rfl
-- 154: FoldedStripsModel.isBetween(III)Z
theorem fd_e154 : fd_C 154 = fd_c154 := rfl
theorem r154_0 {X : fx_Sc} {M M' : fx_M} {r : Option fx_V} {x0 x1 x2 z : Int} {M1 : fx_M} (hc : Ev X 155 0 [.inl (x1)] [] M (some (.inl z)) M1) (k : Ev X 154 2 [.inl (x0), .inl (x1), .inl (x2), fx_u, fx_u, fx_u, fx_u] [.inl (z)] M1 r M') : Ev X 154 0 [.inl (x0), .inl (x1), .inl (x2), fx_u, fx_u, fx_u, fx_u] [] M r M' := by
  refine Ev.run 1 fd_e154 (i' := 1) (ls' := [.inl (x0), .inl (x1), .inl (x2), fx_u, fx_u, fx_u, fx_u]) (st' := [.inl (x1)]) (M1 := M) rfl ?_
  refine Ev.callS (vs := [.inl (x1)]) (rest := []) (r1 := (some (.inl z))) fd_e154 rfl rfl rfl (Nat.le_of_ble_eq_true rfl) (Nat.le_of_ble_eq_true rfl) hc ?_
  exact k
theorem r154_2 {X : fx_Sc} {M M' : fx_M} {r : Option fx_V} {x0 x1 x2 s0 z : Int} {M1 : fx_M} (hc : Ev X 155 0 [.inl (x2)] [] M (some (.inl z)) M1) (k : Ev X 154 5 [.inl (x0), .inl (x1), .inl (x2), .inl (s0), fx_u, fx_u, fx_u] [.inl (z)] M1 r M') : Ev X 154 2 [.inl (x0), .inl (x1), .inl (x2), fx_u, fx_u, fx_u, fx_u] [.inl (s0)] M r M' := by
  refine Ev.run 2 fd_e154 (i' := 4) (ls' := [.inl (x0), .inl (x1), .inl (x2), .inl (s0), fx_u, fx_u, fx_u]) (st' := [.inl (x2)]) (M1 := M) rfl ?_
  refine Ev.callS (vs := [.inl (x2)]) (rest := []) (r1 := (some (.inl z))) fd_e154 rfl rfl rfl (Nat.le_of_ble_eq_true rfl) (Nat.le_of_ble_eq_true rfl) hc ?_
  exact k
theorem r154_5T {X : fx_Sc} {M M' : fx_M} {r : Option fx_V} {x0 x1 x2 x3 s0 : Int} (g : (-2147483648 ≤ x3 ∧ x3 < 2147483648) ∧ (-2147483648 ≤ s0 ∧ s0 < 2147483648)) (h : s0 ≤ x3) (k : Ev X 154 11 [.inl (x0), .inl (x1), .inl (x2), .inl (x3), .inl (s0), fx_u, fx_u] [] M r M') : Ev X 154 5 [.inl (x0), .inl (x1), .inl (x2), .inl (x3), fx_u, fx_u, fx_u] [.inl (s0)] M r M' := by
  refine Ev.run 3 fd_e154 (i' := 8) (ls' := [.inl (x0), .inl (x1), .inl (x2), .inl (x3), .inl (s0), fx_u, fx_u]) (st' := [.inl (s0), .inl (x3)]) (M1 := M) rfl ?_
  refine Ev.icT fd_e154 rfl g.1 g.2 (decide_eq_true h) ?_
  exact k
theorem r154_5F {X : fx_Sc} {M M' : fx_M} {r : Option fx_V} {x0 x1 x2 x3 s0 : Int} (g : (-2147483648 ≤ x3 ∧ x3 < 2147483648) ∧ (-2147483648 ≤ s0 ∧ s0 < 2147483648)) (h : x3 < s0) (k : Ev X 154 9 [.inl (x0), .inl (x1), .inl (x2), .inl (x3), .inl (s0), fx_u, fx_u] [] M r M') : Ev X 154 5 [.inl (x0), .inl (x1), .inl (x2), .inl (x3), fx_u, fx_u, fx_u] [.inl (s0)] M r M' := by
  refine Ev.run 3 fd_e154 (i' := 8) (ls' := [.inl (x0), .inl (x1), .inl (x2), .inl (x3), .inl (s0), fx_u, fx_u]) (st' := [.inl (s0), .inl (x3)]) (M1 := M) rfl ?_
  refine Ev.icF fd_e154 rfl g.1 g.2 (decide_eq_false (Int.not_le.mpr h)) ?_
  exact k
theorem r154_9T {X : fx_Sc} {M M' : fx_M} {r : Option fx_V} {x0 x1 x2 x3 x4 : Int} (g : (-2147483648 ≤ x3 ∧ x3 < 2147483648) ∧ (-2147483648 ≤ x4 ∧ x4 < 2147483648)) (h : x4 ≤ x3) (k : Ev X 154 18 [.inl (x0), .inl (x1), .inl (x2), .inl (x3), .inl (x4), .inl (x3), fx_u] [] M r M') : Ev X 154 9 [.inl (x0), .inl (x1), .inl (x2), .inl (x3), .inl (x4), fx_u, fx_u] [] M r M' := by
  refine Ev.run 5 fd_e154 (i' := 15) (ls' := [.inl (x0), .inl (x1), .inl (x2), .inl (x3), .inl (x4), .inl (x3), fx_u]) (st' := [.inl (x4), .inl (x3)]) (M1 := M) rfl ?_
  refine Ev.icT fd_e154 rfl g.1 g.2 (decide_eq_true h) ?_
  exact k
theorem r154_9F {X : fx_Sc} {M M' : fx_M} {r : Option fx_V} {x0 x1 x2 x3 x4 : Int} (g : (-2147483648 ≤ x3 ∧ x3 < 2147483648) ∧ (-2147483648 ≤ x4 ∧ x4 < 2147483648)) (h : x3 < x4) (k : Ev X 154 16 [.inl (x0), .inl (x1), .inl (x2), .inl (x3), .inl (x4), .inl (x3), fx_u] [] M r M') : Ev X 154 9 [.inl (x0), .inl (x1), .inl (x2), .inl (x3), .inl (x4), fx_u, fx_u] [] M r M' := by
  refine Ev.run 5 fd_e154 (i' := 15) (ls' := [.inl (x0), .inl (x1), .inl (x2), .inl (x3), .inl (x4), .inl (x3), fx_u]) (st' := [.inl (x4), .inl (x3)]) (M1 := M) rfl ?_
  refine Ev.icF fd_e154 rfl g.1 g.2 (decide_eq_false (Int.not_le.mpr h)) ?_
  exact k
theorem r154_11T {X : fx_Sc} {M M' : fx_M} {r : Option fx_V} {x0 x1 x2 x3 x4 : Int} (g : (-2147483648 ≤ x3 ∧ x3 < 2147483648) ∧ (-2147483648 ≤ x4 ∧ x4 < 2147483648)) (h : x4 ≤ x3) (k : Ev X 154 18 [.inl (x0), .inl (x1), .inl (x2), .inl (x3), .inl (x4), .inl (x4), fx_u] [] M r M') : Ev X 154 11 [.inl (x0), .inl (x1), .inl (x2), .inl (x3), .inl (x4), fx_u, fx_u] [] M r M' := by
  refine Ev.run 4 fd_e154 (i' := 15) (ls' := [.inl (x0), .inl (x1), .inl (x2), .inl (x3), .inl (x4), .inl (x4), fx_u]) (st' := [.inl (x4), .inl (x3)]) (M1 := M) rfl ?_
  refine Ev.icT fd_e154 rfl g.1 g.2 (decide_eq_true h) ?_
  exact k
theorem r154_11F {X : fx_Sc} {M M' : fx_M} {r : Option fx_V} {x0 x1 x2 x3 x4 : Int} (g : (-2147483648 ≤ x3 ∧ x3 < 2147483648) ∧ (-2147483648 ≤ x4 ∧ x4 < 2147483648)) (h : x3 < x4) (k : Ev X 154 16 [.inl (x0), .inl (x1), .inl (x2), .inl (x3), .inl (x4), .inl (x4), fx_u] [] M r M') : Ev X 154 11 [.inl (x0), .inl (x1), .inl (x2), .inl (x3), .inl (x4), fx_u, fx_u] [] M r M' := by
  refine Ev.run 4 fd_e154 (i' := 15) (ls' := [.inl (x0), .inl (x1), .inl (x2), .inl (x3), .inl (x4), .inl (x4), fx_u]) (st' := [.inl (x4), .inl (x3)]) (M1 := M) rfl ?_
  refine Ev.icF fd_e154 rfl g.1 g.2 (decide_eq_false (Int.not_le.mpr h)) ?_
  exact k
theorem r154_16 {X : fx_Sc} {M M' : fx_M} {r : Option fx_V} {x0 x1 x2 x3 x4 x5 z : Int} {M1 : fx_M} (hc : Ev X 155 0 [.inl (x0)] [] M (some (.inl z)) M1) (k : Ev X 154 22 [.inl (x0), .inl (x1), .inl (x2), .inl (x3), .inl (x4), .inl (x5), .inl (x4)] [.inl (z)] M1 r M') : Ev X 154 16 [.inl (x0), .inl (x1), .inl (x2), .inl (x3), .inl (x4), .inl (x5), fx_u] [] M r M' := by
  refine Ev.run 4 fd_e154 (i' := 21) (ls' := [.inl (x0), .inl (x1), .inl (x2), .inl (x3), .inl (x4), .inl (x5), .inl (x4)]) (st' := [.inl (x0)]) (M1 := M) rfl ?_
  refine Ev.callS (vs := [.inl (x0)]) (rest := []) (r1 := (some (.inl z))) fd_e154 rfl rfl rfl (Nat.le_of_ble_eq_true rfl) (Nat.le_of_ble_eq_true rfl) hc ?_
  exact k
theorem r154_18 {X : fx_Sc} {M M' : fx_M} {r : Option fx_V} {x0 x1 x2 x3 x4 x5 z : Int} {M1 : fx_M} (hc : Ev X 155 0 [.inl (x0)] [] M (some (.inl z)) M1) (k : Ev X 154 22 [.inl (x0), .inl (x1), .inl (x2), .inl (x3), .inl (x4), .inl (x5), .inl (x3)] [.inl (z)] M1 r M') : Ev X 154 18 [.inl (x0), .inl (x1), .inl (x2), .inl (x3), .inl (x4), .inl (x5), fx_u] [] M r M' := by
  refine Ev.run 3 fd_e154 (i' := 21) (ls' := [.inl (x0), .inl (x1), .inl (x2), .inl (x3), .inl (x4), .inl (x5), .inl (x3)]) (st' := [.inl (x0)]) (M1 := M) rfl ?_
  refine Ev.callS (vs := [.inl (x0)]) (rest := []) (r1 := (some (.inl z))) fd_e154 rfl rfl rfl (Nat.le_of_ble_eq_true rfl) (Nat.le_of_ble_eq_true rfl) hc ?_
  exact k
theorem r154_22T {X : fx_Sc} {M M' : fx_M} {r : Option fx_V} {x0 x1 x2 x3 x4 x5 x6 s0 : Int} (g : (-2147483648 ≤ s0 ∧ s0 < 2147483648) ∧ (-2147483648 ≤ x5 ∧ x5 < 2147483648)) (h : s0 ≤ x5) (k : Ev X 154 30 [.inl (x0), .inl (x1), .inl (x2), .inl (x3), .inl (x4), .inl (x5), .inl (x6)] [] M r M') : Ev X 154 22 [.inl (x0), .inl (x1), .inl (x2), .inl (x3), .inl (x4), .inl (x5), .inl (x6)] [.inl (s0)] M r M' := by
  refine Ev.run 1 fd_e154 (i' := 23) (ls' := [.inl (x0), .inl (x1), .inl (x2), .inl (x3), .inl (x4), .inl (x5), .inl (x6)]) (st' := [.inl (x5), .inl (s0)]) (M1 := M) rfl ?_
  refine Ev.icT fd_e154 rfl g.1 g.2 (decide_eq_true h) ?_
  exact k
theorem r154_22F {X : fx_Sc} {M M' : fx_M} {r : Option fx_V} {x0 x1 x2 x3 x4 x5 x6 s0 : Int} (g : (-2147483648 ≤ s0 ∧ s0 < 2147483648) ∧ (-2147483648 ≤ x5 ∧ x5 < 2147483648)) (h : x5 < s0) (k : Ev X 154 24 [.inl (x0), .inl (x1), .inl (x2), .inl (x3), .inl (x4), .inl (x5), .inl (x6)] [] M r M') : Ev X 154 22 [.inl (x0), .inl (x1), .inl (x2), .inl (x3), .inl (x4), .inl (x5), .inl (x6)] [.inl (s0)] M r M' := by
  refine Ev.run 1 fd_e154 (i' := 23) (ls' := [.inl (x0), .inl (x1), .inl (x2), .inl (x3), .inl (x4), .inl (x5), .inl (x6)]) (st' := [.inl (x5), .inl (s0)]) (M1 := M) rfl ?_
  refine Ev.icF fd_e154 rfl g.1 g.2 (decide_eq_false (Int.not_le.mpr h)) ?_
  exact k
theorem r154_24 {X : fx_Sc} {M M' : fx_M} {r : Option fx_V} {x0 x1 x2 x3 x4 x5 x6 z : Int} {M1 : fx_M} (hc : Ev X 155 0 [.inl (x0)] [] M (some (.inl z)) M1) (k : Ev X 154 26 [.inl (x0), .inl (x1), .inl (x2), .inl (x3), .inl (x4), .inl (x5), .inl (x6)] [.inl (z)] M1 r M') : Ev X 154 24 [.inl (x0), .inl (x1), .inl (x2), .inl (x3), .inl (x4), .inl (x5), .inl (x6)] [] M r M' := by
  refine Ev.run 1 fd_e154 (i' := 25) (ls' := [.inl (x0), .inl (x1), .inl (x2), .inl (x3), .inl (x4), .inl (x5), .inl (x6)]) (st' := [.inl (x0)]) (M1 := M) rfl ?_
  refine Ev.callS (vs := [.inl (x0)]) (rest := []) (r1 := (some (.inl z))) fd_e154 rfl rfl rfl (Nat.le_of_ble_eq_true rfl) (Nat.le_of_ble_eq_true rfl) hc ?_
  exact k
theorem r154_26T {X : fx_Sc} {M M' : fx_M} {r : Option fx_V} {x0 x1 x2 x3 x4 x5 x6 s0 : Int} (g : (-2147483648 ≤ s0 ∧ s0 < 2147483648) ∧ (-2147483648 ≤ x6 ∧ x6 < 2147483648)) (h : x6 ≤ s0) (k : Ev X 154 30 [.inl (x0), .inl (x1), .inl (x2), .inl (x3), .inl (x4), .inl (x5), .inl (x6)] [] M r M') : Ev X 154 26 [.inl (x0), .inl (x1), .inl (x2), .inl (x3), .inl (x4), .inl (x5), .inl (x6)] [.inl (s0)] M r M' := by
  refine Ev.run 1 fd_e154 (i' := 27) (ls' := [.inl (x0), .inl (x1), .inl (x2), .inl (x3), .inl (x4), .inl (x5), .inl (x6)]) (st' := [.inl (x6), .inl (s0)]) (M1 := M) rfl ?_
  refine Ev.icT fd_e154 rfl g.1 g.2 (decide_eq_true h) ?_
  exact k
theorem r154_26F {X : fx_Sc} {M M' : fx_M} {r : Option fx_V} {x0 x1 x2 x3 x4 x5 x6 s0 : Int} (g : (-2147483648 ≤ s0 ∧ s0 < 2147483648) ∧ (-2147483648 ≤ x6 ∧ x6 < 2147483648)) (h : s0 < x6) (k : Ev X 154 28 [.inl (x0), .inl (x1), .inl (x2), .inl (x3), .inl (x4), .inl (x5), .inl (x6)] [] M r M') : Ev X 154 26 [.inl (x0), .inl (x1), .inl (x2), .inl (x3), .inl (x4), .inl (x5), .inl (x6)] [.inl (s0)] M r M' := by
  refine Ev.run 1 fd_e154 (i' := 27) (ls' := [.inl (x0), .inl (x1), .inl (x2), .inl (x3), .inl (x4), .inl (x5), .inl (x6)]) (st' := [.inl (x6), .inl (s0)]) (M1 := M) rfl ?_
  refine Ev.icF fd_e154 rfl g.1 g.2 (decide_eq_false (Int.not_le.mpr h)) ?_
  exact k
theorem r154_28 {X : fx_Sc} {M : fx_M} {x0 x1 x2 x3 x4 x5 x6 : Int} : Ev X 154 28 [.inl (x0), .inl (x1), .inl (x2), .inl (x3), .inl (x4), .inl (x5), .inl (x6)] [] M (some (.inl (1))) M := by
  refine Ev.run 2 fd_e154 (i' := 31) (ls' := [.inl (x0), .inl (x1), .inl (x2), .inl (x3), .inl (x4), .inl (x5), .inl (x6)]) (st' := [.inl (1)]) (M1 := M) rfl ?_
  exact Ev.ret2 fd_e154 rfl rfl (by decide)
theorem r154_30 {X : fx_Sc} {M : fx_M} {x0 x1 x2 x3 x4 x5 x6 : Int} : Ev X 154 30 [.inl (x0), .inl (x1), .inl (x2), .inl (x3), .inl (x4), .inl (x5), .inl (x6)] [] M (some (.inl (0))) M := by
  refine Ev.run 1 fd_e154 (i' := 31) (ls' := [.inl (x0), .inl (x1), .inl (x2), .inl (x3), .inl (x4), .inl (x5), .inl (x6)]) (st' := [.inl (0)]) (M1 := M) rfl ?_
  exact Ev.ret2 fd_e154 rfl rfl (by decide)
-- 155: FoldedStripsModel.around(I)I
theorem fd_e155 : fd_C 155 = fd_c155 := rfl
theorem r155_0T {X : fx_Sc} {M M' : fx_M} {r : Option fx_V} {x0 : Int} (g : (-2147483648 ≤ x0 ∧ x0 < 2147483648)) (h : 12 ≤ x0) (k : Ev X 155 5 [.inl (x0)] [] M r M') : Ev X 155 0 [.inl (x0)] [] M r M' := by
  refine Ev.run 2 fd_e155 (i' := 2) (ls' := [.inl (x0)]) (st' := [.inl (12), .inl (x0)]) (M1 := M) rfl ?_
  refine Ev.icT fd_e155 rfl g (by decide) (decide_eq_true h) ?_
  exact k
theorem r155_0F {X : fx_Sc} {M M' : fx_M} {r : Option fx_V} {x0 : Int} (g : (-2147483648 ≤ x0 ∧ x0 < 2147483648)) (h : x0 < 12) (k : Ev X 155 3 [.inl (x0)] [] M r M') : Ev X 155 0 [.inl (x0)] [] M r M' := by
  refine Ev.run 2 fd_e155 (i' := 2) (ls' := [.inl (x0)]) (st' := [.inl (12), .inl (x0)]) (M1 := M) rfl ?_
  refine Ev.icF fd_e155 rfl g (by decide) (decide_eq_false (Int.not_le.mpr h)) ?_
  exact k
theorem r155_3 {X : fx_Sc} {M : fx_M} {x0 : Int} : Ev X 155 3 [.inl (x0)] [] M (some (.inl (x0))) M := by
  refine Ev.run 2 fd_e155 (i' := 8) (ls' := [.inl (x0)]) (st' := [.inl (x0)]) (M1 := M) rfl ?_
  exact Ev.ret1 fd_e155 rfl rfl
theorem r155_5 {X : fx_Sc} {M : fx_M} {x0 : Int} : Ev X 155 5 [.inl (x0)] [] M (some (.inl ((35 - x0)))) M := by
  refine Ev.run 3 fd_e155 (i' := 8) (ls' := [.inl (x0)]) (st' := [.inl ((35 - x0))]) (M1 := M) rfl ?_
  exact Ev.ret1 fd_e155 rfl rfl
-- 156: FoldedStripsModel.panel(II)I
theorem fd_e156 : fd_C 156 = fd_c156 := rfl
theorem r156_0 {X : fx_Sc} {M M' : fx_M} {r : Option fx_V} {x1 x2 z : Int} {M1 : fx_M} (hc : Ev X 116 0 [.inl (x1)] [] M (some (.inl z)) M1) (k : Ev X 156 2 [fx_f 56, .inl (x1), .inl (x2)] [.inl (z)] M1 r M') : Ev X 156 0 [fx_f 56, .inl (x1), .inl (x2)] [] M r M' := by
  refine Ev.run 1 fd_e156 (i' := 1) (ls' := [fx_f 56, .inl (x1), .inl (x2)]) (st' := [.inl (x1)]) (M1 := M) rfl ?_
  refine Ev.callS (vs := [.inl (x1)]) (rest := []) (r1 := (some (.inl z))) fd_e156 rfl rfl rfl (Nat.le_of_ble_eq_true rfl) (Nat.le_of_ble_eq_true rfl) hc ?_
  exact k
theorem r156_2T {X : fx_Sc} {M M' : fx_M} {r : Option fx_V} {x1 x2 s0 : Int} (g : (-2147483648 ≤ s0 ∧ s0 < 2147483648)) (h : s0 ≠ 0) (k : Ev X 156 5 [fx_f 56, .inl (x1), .inl (x2)] [] M r M') : Ev X 156 2 [fx_f 56, .inl (x1), .inl (x2)] [.inl (s0)] M r M' := by
  refine Ev.ifT fd_e156 rfl g (decide_eq_true h) ?_
  exact k
theorem r156_2F {X : fx_Sc} {M M' : fx_M} {r : Option fx_V} {x1 x2 s0 : Int} (g : (-2147483648 ≤ s0 ∧ s0 < 2147483648)) (h : s0 = 0) (k : Ev X 156 3 [fx_f 56, .inl (x1), .inl (x2)] [] M r M') : Ev X 156 2 [fx_f 56, .inl (x1), .inl (x2)] [.inl (s0)] M r M' := by
  refine Ev.ifF fd_e156 rfl g (decide_eq_false (not_not_intro h)) ?_
  exact k
theorem r156_3 {X : fx_Sc} {M : fx_M} {x1 x2 : Int} : Ev X 156 3 [fx_f 56, .inl (x1), .inl (x2)] [] M (some (.inl ((-1)))) M := by
  refine Ev.run 1 fd_e156 (i' := 4) (ls' := [fx_f 56, .inl (x1), .inl (x2)]) (st' := [.inl ((-1))]) (M1 := M) rfl ?_
  exact Ev.ret1 fd_e156 rfl rfl
theorem r156_5 {X : fx_Sc} {M M' : fx_M} {r : Option fx_V} {x1 x2 : Int} {M1 : fx_M} (hc : Ev X 149 0 [fx_f 56, fx_u, fx_u, fx_u] [] M none M1) (k : Ev X 156 7 [fx_f 56, .inl (x1), .inl (x2)] [] M1 r M') : Ev X 156 5 [fx_f 56, .inl (x1), .inl (x2)] [] M r M' := by
  refine Ev.run 1 fd_e156 (i' := 6) (ls' := [fx_f 56, .inl (x1), .inl (x2)]) (st' := [fx_f 56]) (M1 := M) rfl ?_
  refine Ev.callV (vs := [fx_f 56]) (rest := []) (r1 := none) fd_e156 rfl rfl rfl (Nat.le_of_ble_eq_true rfl) (Nat.le_of_ble_eq_true rfl) rfl hc ?_
  exact k
theorem r156_7D {X : fx_Sc} {M M' : fx_M} {r : Option fx_V} {x1 x2 : Int} (g : (-2147483648 ≤ x2 ∧ x2 < 2147483648)) (h : x2 < 0 ∨ 7 < x2) (k : Ev X 156 52 [fx_f 56, .inl (x1), .inl (x2)] [] M r M') : Ev X 156 7 [fx_f 56, .inl (x1), .inl (x2)] [] M r M' := by
  refine Ev.run 1 fd_e156 (i' := 8) (ls' := [fx_f 56, .inl (x1), .inl (x2)]) (st' := [.inl (x2)]) (M1 := M) rfl ?_
  refine Ev.tsO fd_e156 rfl g h ?_
  exact k
theorem r156_7c0 {X : fx_Sc} {M M' : fx_M} {r : Option fx_V} {x1 x2 : Int} (h : x2 = 0) (k : Ev X 156 9 [fx_f 56, .inl (x1), .inl (x2)] [] M r M') : Ev X 156 7 [fx_f 56, .inl (x1), .inl (x2)] [] M r M' := by
  refine Ev.run 1 fd_e156 (i' := 8) (ls' := [fx_f 56, .inl (x1), .inl (x2)]) (st' := [.inl (x2)]) (M1 := M) rfl ?_
  refine Ev.tsI (t := 9) fd_e156 rfl (by rw [h]; decide) (by rw [h]; decide) (by rw [h]; rfl) ?_
  exact k
theorem r156_7c1 {X : fx_Sc} {M M' : fx_M} {r : Option fx_V} {x1 x2 : Int} (h : x2 = 1) (k : Ev X 156 13 [fx_f 56, .inl (x1), .inl (x2)] [] M r M') : Ev X 156 7 [fx_f 56, .inl (x1), .inl (x2)] [] M r M' := by
  refine Ev.run 1 fd_e156 (i' := 8) (ls' := [fx_f 56, .inl (x1), .inl (x2)]) (st' := [.inl (x2)]) (M1 := M) rfl ?_
  refine Ev.tsI (t := 13) fd_e156 rfl (by rw [h]; decide) (by rw [h]; decide) (by rw [h]; rfl) ?_
  exact k
theorem r156_7c2 {X : fx_Sc} {M M' : fx_M} {r : Option fx_V} {x1 x2 : Int} (h : x2 = 2) (k : Ev X 156 20 [fx_f 56, .inl (x1), .inl (x2)] [] M r M') : Ev X 156 7 [fx_f 56, .inl (x1), .inl (x2)] [] M r M' := by
  refine Ev.run 1 fd_e156 (i' := 8) (ls' := [fx_f 56, .inl (x1), .inl (x2)]) (st' := [.inl (x2)]) (M1 := M) rfl ?_
  refine Ev.tsI (t := 20) fd_e156 rfl (by rw [h]; decide) (by rw [h]; decide) (by rw [h]; rfl) ?_
  exact k
theorem r156_7c3 {X : fx_Sc} {M M' : fx_M} {r : Option fx_V} {x1 x2 : Int} (h : x2 = 3) (k : Ev X 156 26 [fx_f 56, .inl (x1), .inl (x2)] [] M r M') : Ev X 156 7 [fx_f 56, .inl (x1), .inl (x2)] [] M r M' := by
  refine Ev.run 1 fd_e156 (i' := 8) (ls' := [fx_f 56, .inl (x1), .inl (x2)]) (st' := [.inl (x2)]) (M1 := M) rfl ?_
  refine Ev.tsI (t := 26) fd_e156 rfl (by rw [h]; decide) (by rw [h]; decide) (by rw [h]; rfl) ?_
  exact k
theorem r156_7c4 {X : fx_Sc} {M M' : fx_M} {r : Option fx_V} {x1 x2 : Int} (h : x2 = 4) (k : Ev X 156 34 [fx_f 56, .inl (x1), .inl (x2)] [] M r M') : Ev X 156 7 [fx_f 56, .inl (x1), .inl (x2)] [] M r M' := by
  refine Ev.run 1 fd_e156 (i' := 8) (ls' := [fx_f 56, .inl (x1), .inl (x2)]) (st' := [.inl (x2)]) (M1 := M) rfl ?_
  refine Ev.tsI (t := 34) fd_e156 rfl (by rw [h]; decide) (by rw [h]; decide) (by rw [h]; rfl) ?_
  exact k
theorem r156_7c5 {X : fx_Sc} {M M' : fx_M} {r : Option fx_V} {x1 x2 : Int} (h : x2 = 5) (k : Ev X 156 38 [fx_f 56, .inl (x1), .inl (x2)] [] M r M') : Ev X 156 7 [fx_f 56, .inl (x1), .inl (x2)] [] M r M' := by
  refine Ev.run 1 fd_e156 (i' := 8) (ls' := [fx_f 56, .inl (x1), .inl (x2)]) (st' := [.inl (x2)]) (M1 := M) rfl ?_
  refine Ev.tsI (t := 38) fd_e156 rfl (by rw [h]; decide) (by rw [h]; decide) (by rw [h]; rfl) ?_
  exact k
theorem r156_7c6 {X : fx_Sc} {M M' : fx_M} {r : Option fx_V} {x1 x2 : Int} (h : x2 = 6) (k : Ev X 156 44 [fx_f 56, .inl (x1), .inl (x2)] [] M r M') : Ev X 156 7 [fx_f 56, .inl (x1), .inl (x2)] [] M r M' := by
  refine Ev.run 1 fd_e156 (i' := 8) (ls' := [fx_f 56, .inl (x1), .inl (x2)]) (st' := [.inl (x2)]) (M1 := M) rfl ?_
  refine Ev.tsI (t := 44) fd_e156 rfl (by rw [h]; decide) (by rw [h]; decide) (by rw [h]; rfl) ?_
  exact k
theorem r156_7c7 {X : fx_Sc} {M M' : fx_M} {r : Option fx_V} {x1 x2 : Int} (h : x2 = 7) (k : Ev X 156 48 [fx_f 56, .inl (x1), .inl (x2)] [] M r M') : Ev X 156 7 [fx_f 56, .inl (x1), .inl (x2)] [] M r M' := by
  refine Ev.run 1 fd_e156 (i' := 8) (ls' := [fx_f 56, .inl (x1), .inl (x2)]) (st' := [.inl (x2)]) (M1 := M) rfl ?_
  refine Ev.tsI (t := 48) fd_e156 rfl (by rw [h]; decide) (by rw [h]; decide) (by rw [h]; rfl) ?_
  exact k
theorem r156_9 {X : fx_Sc} {M M' : fx_M} {r : Option fx_V} {x1 x2 z : Int} {M1 : fx_M} (hc : Ev X 121 0 [fx_f 56, .inl (x1), fx_u, fx_u] [] M (some (.inl z)) M1) (k : Ev X 156 12 [fx_f 56, .inl (x1), .inl (x2)] [.inl (z)] M1 r M') : Ev X 156 9 [fx_f 56, .inl (x1), .inl (x2)] [] M r M' := by
  refine Ev.run 2 fd_e156 (i' := 11) (ls' := [fx_f 56, .inl (x1), .inl (x2)]) (st' := [.inl (x1), fx_f 56]) (M1 := M) rfl ?_
  refine Ev.callV (vs := [fx_f 56, .inl (x1)]) (rest := []) (r1 := (some (.inl z))) fd_e156 rfl rfl rfl (Nat.le_of_ble_eq_true rfl) (Nat.le_of_ble_eq_true rfl) rfl hc ?_
  exact k
theorem r156_12 {X : fx_Sc} {M : fx_M} {x1 x2 s0 : Int} : Ev X 156 12 [fx_f 56, .inl (x1), .inl (x2)] [.inl (s0)] M (some (.inl (s0))) M := by
  exact Ev.ret1 fd_e156 rfl rfl
theorem r156_13 {X : fx_Sc} {M : fx_M} {x1 x2 : Int} (g : (0 ≤ (144 + x1) ∧ (144 + x1) < ((150 : Nat) : Int))) : Ev X 156 13 [fx_f 56, .inl (x1), .inl (x2)] [] M (some (.inl ((M 57 ((144 + x1)).toNat)))) M := by
  refine Ev.run 5 fd_e156 (i' := 18) (ls' := [fx_f 56, .inl (x1), .inl (x2)]) (st' := [.inl ((144 + x1)), fx_f 57]) (M1 := M) rfl ?_
  refine Ev.iald fd_e156 rfl rfl (by decide) g ?_
  exact Ev.ret1 fd_e156 rfl rfl
theorem r156_20 {X : fx_Sc} {M M' : fx_M} {r : Option fx_V} {x1 x2 z : Int} {M1 : fx_M} (hc : Ev X 157 0 [fx_f 56, .inl ((24 * x1)), fx_u, fx_u] [] M (some (.inl z)) M1) (k : Ev X 156 25 [fx_f 56, .inl (x1), .inl (x2)] [.inl (z)] M1 r M') : Ev X 156 20 [fx_f 56, .inl (x1), .inl (x2)] [] M r M' := by
  refine Ev.run 4 fd_e156 (i' := 24) (ls' := [fx_f 56, .inl (x1), .inl (x2)]) (st' := [.inl ((24 * x1)), fx_f 56]) (M1 := M) rfl ?_
  refine Ev.callV (vs := [fx_f 56, .inl ((24 * x1))]) (rest := []) (r1 := (some (.inl z))) fd_e156 rfl rfl rfl (Nat.le_of_ble_eq_true rfl) (Nat.le_of_ble_eq_true rfl) rfl hc ?_
  exact k
theorem r156_25 {X : fx_Sc} {M : fx_M} {x1 x2 s0 : Int} : Ev X 156 25 [fx_f 56, .inl (x1), .inl (x2)] [.inl (s0)] M (some (.inl (s0))) M := by
  exact Ev.ret1 fd_e156 rfl rfl
theorem r156_26 {X : fx_Sc} {M M' : fx_M} {r : Option fx_V} {x1 x2 z : Int} {M1 : fx_M} (hc : Ev X 157 0 [fx_f 56, .inl (((24 * x1) + 12)), fx_u, fx_u] [] M (some (.inl z)) M1) (k : Ev X 156 33 [fx_f 56, .inl (x1), .inl (x2)] [.inl (z)] M1 r M') : Ev X 156 26 [fx_f 56, .inl (x1), .inl (x2)] [] M r M' := by
  refine Ev.run 6 fd_e156 (i' := 32) (ls' := [fx_f 56, .inl (x1), .inl (x2)]) (st' := [.inl (((24 * x1) + 12)), fx_f 56]) (M1 := M) rfl ?_
  refine Ev.callV (vs := [fx_f 56, .inl (((24 * x1) + 12))]) (rest := []) (r1 := (some (.inl z))) fd_e156 rfl rfl rfl (Nat.le_of_ble_eq_true rfl) (Nat.le_of_ble_eq_true rfl) rfl hc ?_
  exact k
theorem r156_33 {X : fx_Sc} {M : fx_M} {x1 x2 s0 : Int} : Ev X 156 33 [fx_f 56, .inl (x1), .inl (x2)] [.inl (s0)] M (some (.inl (s0))) M := by
  exact Ev.ret1 fd_e156 rfl rfl
theorem r156_34 {X : fx_Sc} {M M' : fx_M} {r : Option fx_V} {x1 x2 z : Int} {M1 : fx_M} (hc : Ev X 158 0 [fx_f 56, .inl (x1), fx_u, fx_u, fx_u] [] M (some (.inl z)) M1) (k : Ev X 156 37 [fx_f 56, .inl (x1), .inl (x2)] [.inl (z)] M1 r M') : Ev X 156 34 [fx_f 56, .inl (x1), .inl (x2)] [] M r M' := by
  refine Ev.run 2 fd_e156 (i' := 36) (ls' := [fx_f 56, .inl (x1), .inl (x2)]) (st' := [.inl (x1), fx_f 56]) (M1 := M) rfl ?_
  refine Ev.callV (vs := [fx_f 56, .inl (x1)]) (rest := []) (r1 := (some (.inl z))) fd_e156 rfl rfl rfl (Nat.le_of_ble_eq_true rfl) (Nat.le_of_ble_eq_true rfl) rfl hc ?_
  exact k
theorem r156_37 {X : fx_Sc} {M : fx_M} {x1 x2 s0 : Int} : Ev X 156 37 [fx_f 56, .inl (x1), .inl (x2)] [.inl (s0)] M (some (.inl (s0))) M := by
  exact Ev.ret1 fd_e156 rfl rfl
theorem r156_38 {X : fx_Sc} {M M' : fx_M} {r : Option fx_V} {x1 x2 z : Int} {M1 : fx_M} (hc : Ev X 130 0 [fx_f 56, .inl (x1), .inl (x1), .inl (2), fx_u, fx_u] [] M (some (.inl z)) M1) (k : Ev X 156 43 [fx_f 56, .inl (x1), .inl (x2)] [.inl (z)] M1 r M') : Ev X 156 38 [fx_f 56, .inl (x1), .inl (x2)] [] M r M' := by
  refine Ev.run 4 fd_e156 (i' := 42) (ls' := [fx_f 56, .inl (x1), .inl (x2)]) (st' := [.inl (2), .inl (x1), .inl (x1), fx_f 56]) (M1 := M) rfl ?_
  refine Ev.callV (vs := [fx_f 56, .inl (x1), .inl (x1), .inl (2)]) (rest := []) (r1 := (some (.inl z))) fd_e156 rfl rfl rfl (Nat.le_of_ble_eq_true rfl) (Nat.le_of_ble_eq_true rfl) rfl hc ?_
  exact k
theorem r156_43 {X : fx_Sc} {M : fx_M} {x1 x2 s0 : Int} : Ev X 156 43 [fx_f 56, .inl (x1), .inl (x2)] [.inl (s0)] M (some (.inl (s0))) M := by
  exact Ev.ret1 fd_e156 rfl rfl
theorem r156_44 {X : fx_Sc} {M M' : fx_M} {r : Option fx_V} {x1 x2 z : Int} {M1 : fx_M} (hc : Ev X 159 0 [fx_f 56, .inl (x1), fx_u, fx_u] [] M (some (.inl z)) M1) (k : Ev X 156 47 [fx_f 56, .inl (x1), .inl (x2)] [.inl (z)] M1 r M') : Ev X 156 44 [fx_f 56, .inl (x1), .inl (x2)] [] M r M' := by
  refine Ev.run 2 fd_e156 (i' := 46) (ls' := [fx_f 56, .inl (x1), .inl (x2)]) (st' := [.inl (x1), fx_f 56]) (M1 := M) rfl ?_
  refine Ev.callV (vs := [fx_f 56, .inl (x1)]) (rest := []) (r1 := (some (.inl z))) fd_e156 rfl rfl rfl (Nat.le_of_ble_eq_true rfl) (Nat.le_of_ble_eq_true rfl) rfl hc ?_
  exact k
theorem r156_47 {X : fx_Sc} {M : fx_M} {x1 x2 s0 : Int} : Ev X 156 47 [fx_f 56, .inl (x1), .inl (x2)] [.inl (s0)] M (some (.inl (s0))) M := by
  exact Ev.ret1 fd_e156 rfl rfl
theorem r156_48 {X : fx_Sc} {M M' : fx_M} {r : Option fx_V} {x1 x2 z : Int} {M1 : fx_M} (hc : Ev X 160 0 [fx_f 56, .inl (x1), fx_u, fx_u] [] M (some (.inl z)) M1) (k : Ev X 156 51 [fx_f 56, .inl (x1), .inl (x2)] [.inl (z)] M1 r M') : Ev X 156 48 [fx_f 56, .inl (x1), .inl (x2)] [] M r M' := by
  refine Ev.run 2 fd_e156 (i' := 50) (ls' := [fx_f 56, .inl (x1), .inl (x2)]) (st' := [.inl (x1), fx_f 56]) (M1 := M) rfl ?_
  refine Ev.callV (vs := [fx_f 56, .inl (x1)]) (rest := []) (r1 := (some (.inl z))) fd_e156 rfl rfl rfl (Nat.le_of_ble_eq_true rfl) (Nat.le_of_ble_eq_true rfl) rfl hc ?_
  exact k
theorem r156_51 {X : fx_Sc} {M : fx_M} {x1 x2 s0 : Int} : Ev X 156 51 [fx_f 56, .inl (x1), .inl (x2)] [.inl (s0)] M (some (.inl (s0))) M := by
  exact Ev.ret1 fd_e156 rfl rfl
theorem r156_52 {X : fx_Sc} {M : fx_M} {x1 x2 : Int} : Ev X 156 52 [fx_f 56, .inl (x1), .inl (x2)] [] M (some (.inl ((-2)))) M := by
  refine Ev.run 1 fd_e156 (i' := 53) (ls' := [fx_f 56, .inl (x1), .inl (x2)]) (st' := [.inl ((-2))]) (M1 := M) rfl ?_
  exact Ev.ret1 fd_e156 rfl rfl
-- 157: FoldedStripsModel.columns(I)I
theorem fd_e157 : fd_C 157 = fd_c157 := rfl
theorem r157_0 {X : fx_Sc} {M M' : fx_M} {r : Option fx_V} {x1 : Int} (k : Ev X 157 4 [fx_f 56, .inl (x1), .inl (0), .inl (0)] [] M r M') : Ev X 157 0 [fx_f 56, .inl (x1), fx_u, fx_u] [] M r M' := by
  refine Ev.run 4 fd_e157 (i' := 4) (ls' := [fx_f 56, .inl (x1), .inl (0), .inl (0)]) (st' := []) (M1 := M) rfl ?_
  exact k
theorem r157_4T {X : fx_Sc} {M M' : fx_M} {r : Option fx_V} {x1 x2 x3 : Int} (g : (-2147483648 ≤ x3 ∧ x3 < 2147483648)) (h : 12 ≤ x3) (k : Ev X 157 23 [fx_f 56, .inl (x1), .inl (x2), .inl (x3)] [] M r M') : Ev X 157 4 [fx_f 56, .inl (x1), .inl (x2), .inl (x3)] [] M r M' := by
  refine Ev.run 2 fd_e157 (i' := 6) (ls' := [fx_f 56, .inl (x1), .inl (x2), .inl (x3)]) (st' := [.inl (12), .inl (x3)]) (M1 := M) rfl ?_
  refine Ev.icT fd_e157 rfl g (by decide) (decide_eq_true h) ?_
  exact k
theorem r157_4F {X : fx_Sc} {M M' : fx_M} {r : Option fx_V} {x1 x2 x3 : Int} (g : (-2147483648 ≤ x3 ∧ x3 < 2147483648)) (h : x3 < 12) (k : Ev X 157 7 [fx_f 56, .inl (x1), .inl (x2), .inl (x3)] [] M r M') : Ev X 157 4 [fx_f 56, .inl (x1), .inl (x2), .inl (x3)] [] M r M' := by
  refine Ev.run 2 fd_e157 (i' := 6) (ls' := [fx_f 56, .inl (x1), .inl (x2), .inl (x3)]) (st' := [.inl (12), .inl (x3)]) (M1 := M) rfl ?_
  refine Ev.icF fd_e157 rfl g (by decide) (decide_eq_false (Int.not_le.mpr h)) ?_
  exact k
theorem r157_7 {X : fx_Sc} {M M' : fx_M} {r : Option fx_V} {x1 x2 x3 z : Int} {M1 : fx_M} (hc : Ev X 118 0 [fx_f 56, .inl ((x1 + x3))] [] M (some (.inl z)) M1) (k : Ev X 157 13 [fx_f 56, .inl (x1), .inl (x2), .inl (x3)] [.inl (z), .inl (x2)] M1 r M') : Ev X 157 7 [fx_f 56, .inl (x1), .inl (x2), .inl (x3)] [] M r M' := by
  refine Ev.run 5 fd_e157 (i' := 12) (ls' := [fx_f 56, .inl (x1), .inl (x2), .inl (x3)]) (st' := [.inl ((x1 + x3)), fx_f 56, .inl (x2)]) (M1 := M) rfl ?_
  refine Ev.callV (vs := [fx_f 56, .inl ((x1 + x3))]) (rest := [.inl (x2)]) (r1 := (some (.inl z))) fd_e157 rfl rfl rfl (Nat.le_of_ble_eq_true rfl) (Nat.le_of_ble_eq_true rfl) rfl hc ?_
  exact k
theorem r157_13T {X : fx_Sc} {M M' : fx_M} {r : Option fx_V} {x1 x2 x3 s0 s1 : Int} (g : (-2147483648 ≤ s1 ∧ s1 < 2147483648)) (h : s1 = 0) (k : Ev X 157 18 [fx_f 56, .inl (x1), .inl (x2), .inl (x3)] [.inl (s0)] M r M') : Ev X 157 13 [fx_f 56, .inl (x1), .inl (x2), .inl (x3)] [.inl (s1), .inl (s0)] M r M' := by
  refine Ev.ifT fd_e157 rfl g (decide_eq_true h) ?_
  exact k
theorem r157_13F {X : fx_Sc} {M M' : fx_M} {r : Option fx_V} {x1 x2 x3 s0 s1 : Int} (g : (-2147483648 ≤ s1 ∧ s1 < 2147483648)) (h : s1 ≠ 0) (k : Ev X 157 14 [fx_f 56, .inl (x1), .inl (x2), .inl (x3)] [.inl (s0)] M r M') : Ev X 157 13 [fx_f 56, .inl (x1), .inl (x2), .inl (x3)] [.inl (s1), .inl (s0)] M r M' := by
  refine Ev.ifF fd_e157 rfl g (decide_eq_false h) ?_
  exact k
theorem r157_14 {X : fx_Sc} {M M' : fx_M} {r : Option fx_V} {x1 x2 x3 s0 : Int} (k : Ev X 157 4 [fx_f 56, .inl (x1), .inl ((fx_or s0 (fx_shl 1 x3))), .inl ((x3 + 1))] [] M r M') : Ev X 157 14 [fx_f 56, .inl (x1), .inl (x2), .inl (x3)] [.inl (s0)] M r M' := by
  refine Ev.run 8 fd_e157 (i' := 4) (ls' := [fx_f 56, .inl (x1), .inl ((fx_or s0 (fx_shl 1 x3))), .inl ((x3 + 1))]) (st' := []) (M1 := M) rfl ?_
  exact k
theorem r157_18 {X : fx_Sc} {M M' : fx_M} {r : Option fx_V} {x1 x2 x3 s0 : Int} (k : Ev X 157 4 [fx_f 56, .inl (x1), .inl ((fx_or s0 0)), .inl ((x3 + 1))] [] M r M') : Ev X 157 18 [fx_f 56, .inl (x1), .inl (x2), .inl (x3)] [.inl (s0)] M r M' := by
  refine Ev.run 5 fd_e157 (i' := 4) (ls' := [fx_f 56, .inl (x1), .inl ((fx_or s0 0)), .inl ((x3 + 1))]) (st' := []) (M1 := M) rfl ?_
  exact k
theorem r157_23 {X : fx_Sc} {M : fx_M} {x1 x2 x3 : Int} : Ev X 157 23 [fx_f 56, .inl (x1), .inl (x2), .inl (x3)] [] M (some (.inl (x2))) M := by
  refine Ev.run 1 fd_e157 (i' := 24) (ls' := [fx_f 56, .inl (x1), .inl (x2), .inl (x3)]) (st' := [.inl (x2)]) (M1 := M) rfl ?_
  exact Ev.ret1 fd_e157 rfl rfl
-- 158: FoldedStripsModel.pairs(I)I
theorem fd_e158 : fd_C 158 = fd_c158 := rfl
theorem r158_0 {X : fx_Sc} {M M' : fx_M} {r : Option fx_V} {x1 : Int} (k : Ev X 158 4 [fx_f 56, .inl (x1), .inl (0), .inl (0), fx_u] [] M r M') : Ev X 158 0 [fx_f 56, .inl (x1), fx_u, fx_u, fx_u] [] M r M' := by
  refine Ev.run 4 fd_e158 (i' := 4) (ls' := [fx_f 56, .inl (x1), .inl (0), .inl (0), fx_u]) (st' := []) (M1 := M) rfl ?_
  exact k
theorem r158_4T {X : fx_Sc} {M M' : fx_M} {r : Option fx_V} {x1 x2 x3 : Int} {v4 : fx_V} (g : (-2147483648 ≤ x3 ∧ x3 < 2147483648)) (h : 24 ≤ x3) (k : Ev X 158 31 [fx_f 56, .inl (x1), .inl (x2), .inl (x3), v4] [] M r M') : Ev X 158 4 [fx_f 56, .inl (x1), .inl (x2), .inl (x3), v4] [] M r M' := by
  refine Ev.run 2 fd_e158 (i' := 6) (ls' := [fx_f 56, .inl (x1), .inl (x2), .inl (x3), v4]) (st' := [.inl (24), .inl (x3)]) (M1 := M) rfl ?_
  refine Ev.icT fd_e158 rfl g (by decide) (decide_eq_true h) ?_
  exact k
theorem r158_4F {X : fx_Sc} {M M' : fx_M} {r : Option fx_V} {x1 x2 x3 : Int} {v4 : fx_V} (g : (-2147483648 ≤ x3 ∧ x3 < 2147483648)) (h : x3 < 24) (k : Ev X 158 7 [fx_f 56, .inl (x1), .inl (x2), .inl (x3), v4] [] M r M') : Ev X 158 4 [fx_f 56, .inl (x1), .inl (x2), .inl (x3), v4] [] M r M' := by
  refine Ev.run 2 fd_e158 (i' := 6) (ls' := [fx_f 56, .inl (x1), .inl (x2), .inl (x3), v4]) (st' := [.inl (24), .inl (x3)]) (M1 := M) rfl ?_
  refine Ev.icF fd_e158 rfl g (by decide) (decide_eq_false (Int.not_le.mpr h)) ?_
  exact k
theorem r158_7T {X : fx_Sc} {M M' : fx_M} {r : Option fx_V} {x1 x2 x3 : Int} {v4 : fx_V} (g : (0 ≤ ((24 * x1) + x3) ∧ ((24 * x1) + x3) < ((150 : Nat) : Int)) ∧ (-2147483648 ≤ ((M 57 (((24 * x1) + x3)).toNat) - 1) ∧ ((M 57 (((24 * x1) + x3)).toNat) - 1) < 2147483648) ∧ (-2147483648 ≤ x3 ∧ x3 < 2147483648)) (h : ((M 57 (((24 * x1) + x3)).toNat) - 1) ≤ x3) (k : Ev X 158 26 [fx_f 56, .inl (x1), .inl (x2), .inl (x3), .inl (((24 * x1) + x3))] [.inl (x2)] M r M') : Ev X 158 7 [fx_f 56, .inl (x1), .inl (x2), .inl (x3), v4] [] M r M' := by
  refine Ev.run 10 fd_e158 (i' := 17) (ls' := [fx_f 56, .inl (x1), .inl (x2), .inl (x3), .inl (((24 * x1) + x3))]) (st' := [.inl (((24 * x1) + x3)), fx_f 57, .inl (x2)]) (M1 := M) rfl ?_
  refine Ev.iald fd_e158 rfl rfl (by decide) g.1 ?_
  refine Ev.run 3 fd_e158 (i' := 21) (ls' := [fx_f 56, .inl (x1), .inl (x2), .inl (x3), .inl (((24 * x1) + x3))]) (st' := [.inl (x3), .inl (((M 57 (((24 * x1) + x3)).toNat) - 1)), .inl (x2)]) (M1 := M) rfl ?_
  refine Ev.icT fd_e158 rfl g.2.1 g.2.2 (decide_eq_true h) ?_
  exact k
theorem r158_7F {X : fx_Sc} {M M' : fx_M} {r : Option fx_V} {x1 x2 x3 : Int} {v4 : fx_V} (g : (0 ≤ ((24 * x1) + x3) ∧ ((24 * x1) + x3) < ((150 : Nat) : Int)) ∧ (-2147483648 ≤ ((M 57 (((24 * x1) + x3)).toNat) - 1) ∧ ((M 57 (((24 * x1) + x3)).toNat) - 1) < 2147483648) ∧ (-2147483648 ≤ x3 ∧ x3 < 2147483648)) (h : x3 < ((M 57 (((24 * x1) + x3)).toNat) - 1)) (k : Ev X 158 22 [fx_f 56, .inl (x1), .inl (x2), .inl (x3), .inl (((24 * x1) + x3))] [.inl (x2)] M r M') : Ev X 158 7 [fx_f 56, .inl (x1), .inl (x2), .inl (x3), v4] [] M r M' := by
  refine Ev.run 10 fd_e158 (i' := 17) (ls' := [fx_f 56, .inl (x1), .inl (x2), .inl (x3), .inl (((24 * x1) + x3))]) (st' := [.inl (((24 * x1) + x3)), fx_f 57, .inl (x2)]) (M1 := M) rfl ?_
  refine Ev.iald fd_e158 rfl rfl (by decide) g.1 ?_
  refine Ev.run 3 fd_e158 (i' := 21) (ls' := [fx_f 56, .inl (x1), .inl (x2), .inl (x3), .inl (((24 * x1) + x3))]) (st' := [.inl (x3), .inl (((M 57 (((24 * x1) + x3)).toNat) - 1)), .inl (x2)]) (M1 := M) rfl ?_
  refine Ev.icF fd_e158 rfl g.2.1 g.2.2 (decide_eq_false (Int.not_le.mpr h)) ?_
  exact k
theorem r158_22 {X : fx_Sc} {M M' : fx_M} {r : Option fx_V} {x1 x2 x3 x4 s0 z : Int} {M1 : fx_M} (hc : Ev X 153 0 [fx_f 56, .inl (x4), fx_u, fx_u, fx_u, fx_u, fx_u, fx_u, fx_u] [] M (some (.inl z)) M1) (k : Ev X 158 25 [fx_f 56, .inl (x1), .inl (x2), .inl (x3), .inl (x4)] [.inl (z), .inl (s0)] M1 r M') : Ev X 158 22 [fx_f 56, .inl (x1), .inl (x2), .inl (x3), .inl (x4)] [.inl (s0)] M r M' := by
  refine Ev.run 2 fd_e158 (i' := 24) (ls' := [fx_f 56, .inl (x1), .inl (x2), .inl (x3), .inl (x4)]) (st' := [.inl (x4), fx_f 56, .inl (s0)]) (M1 := M) rfl ?_
  refine Ev.callV (vs := [fx_f 56, .inl (x4)]) (rest := [.inl (s0)]) (r1 := (some (.inl z))) fd_e158 rfl rfl rfl (Nat.le_of_ble_eq_true rfl) (Nat.le_of_ble_eq_true rfl) rfl hc ?_
  exact k
theorem r158_25 {X : fx_Sc} {M M' : fx_M} {r : Option fx_V} {x1 x2 x3 x4 s0 s1 : Int} (k : Ev X 158 4 [fx_f 56, .inl (x1), .inl ((s0 + s1)), .inl ((x3 + 1)), .inl (x4)] [] M r M') : Ev X 158 25 [fx_f 56, .inl (x1), .inl (x2), .inl (x3), .inl (x4)] [.inl (s1), .inl (s0)] M r M' := by
  refine Ev.run 5 fd_e158 (i' := 4) (ls' := [fx_f 56, .inl (x1), .inl ((s0 + s1)), .inl ((x3 + 1)), .inl (x4)]) (st' := []) (M1 := M) rfl ?_
  exact k
theorem r158_26 {X : fx_Sc} {M M' : fx_M} {r : Option fx_V} {x1 x2 x3 x4 s0 : Int} (k : Ev X 158 4 [fx_f 56, .inl (x1), .inl ((s0 + 0)), .inl ((x3 + 1)), .inl (x4)] [] M r M') : Ev X 158 26 [fx_f 56, .inl (x1), .inl (x2), .inl (x3), .inl (x4)] [.inl (s0)] M r M' := by
  refine Ev.run 5 fd_e158 (i' := 4) (ls' := [fx_f 56, .inl (x1), .inl ((s0 + 0)), .inl ((x3 + 1)), .inl (x4)]) (st' := []) (M1 := M) rfl ?_
  exact k
theorem r158_31 {X : fx_Sc} {M : fx_M} {x1 x2 x3 : Int} {v4 : fx_V} : Ev X 158 31 [fx_f 56, .inl (x1), .inl (x2), .inl (x3), v4] [] M (some (.inl ((fx_div x2 2)))) M := by
  refine Ev.run 2 fd_e158 (i' := 33) (ls' := [fx_f 56, .inl (x1), .inl (x2), .inl (x3), v4]) (st' := [.inl (2), .inl (x2)]) (M1 := M) rfl ?_
  refine Ev.div fd_e158 rfl (by decide) ?_
  exact Ev.ret1 fd_e158 rfl rfl
-- 159: FoldedStripsModel.linesIn(I)I
theorem fd_e159 : fd_C 159 = fd_c159 := rfl
theorem r159_0 {X : fx_Sc} {M M' : fx_M} {r : Option fx_V} {x1 : Int} (k : Ev X 159 4 [fx_f 56, .inl (x1), .inl (0), .inl (0)] [] M r M') : Ev X 159 0 [fx_f 56, .inl (x1), fx_u, fx_u] [] M r M' := by
  refine Ev.run 4 fd_e159 (i' := 4) (ls' := [fx_f 56, .inl (x1), .inl (0), .inl (0)]) (st' := []) (M1 := M) rfl ?_
  exact k
theorem r159_4T {X : fx_Sc} {M M' : fx_M} {r : Option fx_V} {x1 x2 x3 : Int} (g : (-2147483648 ≤ x3 ∧ x3 < 2147483648) ∧ (-2147483648 ≤ (M 56 14) ∧ (M 56 14) < 2147483648)) (h : (M 56 14) ≤ x3) (k : Ev X 159 21 [fx_f 56, .inl (x1), .inl (x2), .inl (x3)] [] M r M') : Ev X 159 4 [fx_f 56, .inl (x1), .inl (x2), .inl (x3)] [] M r M' := by
  refine Ev.run 3 fd_e159 (i' := 7) (ls' := [fx_f 56, .inl (x1), .inl (x2), .inl (x3)]) (st' := [.inl ((M 56 14)), .inl (x3)]) (M1 := M) rfl ?_
  refine Ev.icT fd_e159 rfl g.1 g.2 (decide_eq_true h) ?_
  exact k
theorem r159_4F {X : fx_Sc} {M M' : fx_M} {r : Option fx_V} {x1 x2 x3 : Int} (g : (-2147483648 ≤ x3 ∧ x3 < 2147483648) ∧ (-2147483648 ≤ (M 56 14) ∧ (M 56 14) < 2147483648)) (h : x3 < (M 56 14)) (k : Ev X 159 8 [fx_f 56, .inl (x1), .inl (x2), .inl (x3)] [] M r M') : Ev X 159 4 [fx_f 56, .inl (x1), .inl (x2), .inl (x3)] [] M r M' := by
  refine Ev.run 3 fd_e159 (i' := 7) (ls' := [fx_f 56, .inl (x1), .inl (x2), .inl (x3)]) (st' := [.inl ((M 56 14)), .inl (x3)]) (M1 := M) rfl ?_
  refine Ev.icF fd_e159 rfl g.1 g.2 (decide_eq_false (Int.not_le.mpr h)) ?_
  exact k
theorem r159_8 {X : fx_Sc} {M M' : fx_M} {r : Option fx_V} {x1 x2 x3 : Int} (g : (0 ≤ x3 ∧ x3 < ((72 : Nat) : Int))) (k : Ev X 159 4 [fx_f 56, .inl (x1), .inl ((x2 + (fx_and (fx_shr (M 66 (x3).toNat) x1) 1))), .inl ((x3 + 1))] [] M r M') : Ev X 159 8 [fx_f 56, .inl (x1), .inl (x2), .inl (x3)] [] M r M' := by
  refine Ev.run 4 fd_e159 (i' := 12) (ls' := [fx_f 56, .inl (x1), .inl (x2), .inl (x3)]) (st' := [.inl (x3), fx_f 66, .inl (x2)]) (M1 := M) rfl ?_
  refine Ev.iald fd_e159 rfl rfl (by decide) g ?_
  refine Ev.run 8 fd_e159 (i' := 4) (ls' := [fx_f 56, .inl (x1), .inl ((x2 + (fx_and (fx_shr (M 66 (x3).toNat) x1) 1))), .inl ((x3 + 1))]) (st' := []) (M1 := M) rfl ?_
  exact k
theorem r159_21 {X : fx_Sc} {M : fx_M} {x1 x2 x3 : Int} : Ev X 159 21 [fx_f 56, .inl (x1), .inl (x2), .inl (x3)] [] M (some (.inl (x2))) M := by
  refine Ev.run 1 fd_e159 (i' := 22) (ls' := [fx_f 56, .inl (x1), .inl (x2), .inl (x3)]) (st' := [.inl (x2)]) (M1 := M) rfl ?_
  exact Ev.ret1 fd_e159 rfl rfl
-- 160: FoldedStripsModel.down(I)I
theorem fd_e160 : fd_C 160 = fd_c160 := rfl
theorem r160_0 {X : fx_Sc} {M M' : fx_M} {r : Option fx_V} {x1 : Int} (k : Ev X 160 4 [fx_f 56, .inl (x1), .inl (0), .inl (0)] [] M r M') : Ev X 160 0 [fx_f 56, .inl (x1), fx_u, fx_u] [] M r M' := by
  refine Ev.run 4 fd_e160 (i' := 4) (ls' := [fx_f 56, .inl (x1), .inl (0), .inl (0)]) (st' := []) (M1 := M) rfl ?_
  exact k
theorem r160_4T {X : fx_Sc} {M M' : fx_M} {r : Option fx_V} {x1 x2 x3 : Int} (g : (-2147483648 ≤ x3 ∧ x3 < 2147483648)) (h : 12 ≤ x3) (k : Ev X 160 25 [fx_f 56, .inl (x1), .inl (x2), .inl (x3)] [] M r M') : Ev X 160 4 [fx_f 56, .inl (x1), .inl (x2), .inl (x3)] [] M r M' := by
  refine Ev.run 2 fd_e160 (i' := 6) (ls' := [fx_f 56, .inl (x1), .inl (x2), .inl (x3)]) (st' := [.inl (12), .inl (x3)]) (M1 := M) rfl ?_
  refine Ev.icT fd_e160 rfl g (by decide) (decide_eq_true h) ?_
  exact k
theorem r160_4F {X : fx_Sc} {M M' : fx_M} {r : Option fx_V} {x1 x2 x3 : Int} (g : (-2147483648 ≤ x3 ∧ x3 < 2147483648)) (h : x3 < 12) (k : Ev X 160 7 [fx_f 56, .inl (x1), .inl (x2), .inl (x3)] [] M r M') : Ev X 160 4 [fx_f 56, .inl (x1), .inl (x2), .inl (x3)] [] M r M' := by
  refine Ev.run 2 fd_e160 (i' := 6) (ls' := [fx_f 56, .inl (x1), .inl (x2), .inl (x3)]) (st' := [.inl (12), .inl (x3)]) (M1 := M) rfl ?_
  refine Ev.icF fd_e160 rfl g (by decide) (decide_eq_false (Int.not_le.mpr h)) ?_
  exact k
theorem r160_7T {X : fx_Sc} {M M' : fx_M} {r : Option fx_V} {x1 x2 x3 : Int} (g : (0 ≤ ((24 * x1) + x3) ∧ ((24 * x1) + x3) < ((150 : Nat) : Int)) ∧ (-2147483648 ≤ (M 57 (((24 * x1) + x3)).toNat) ∧ (M 57 (((24 * x1) + x3)).toNat) < 2147483648)) (h : (M 57 (((24 * x1) + x3)).toNat) ≤ 12) (k : Ev X 160 20 [fx_f 56, .inl (x1), .inl (x2), .inl (x3)] [.inl (x2)] M r M') : Ev X 160 7 [fx_f 56, .inl (x1), .inl (x2), .inl (x3)] [] M r M' := by
  refine Ev.run 8 fd_e160 (i' := 15) (ls' := [fx_f 56, .inl (x1), .inl (x2), .inl (x3)]) (st' := [.inl (((24 * x1) + x3)), fx_f 57, .inl (x2)]) (M1 := M) rfl ?_
  refine Ev.iald fd_e160 rfl rfl (by decide) g.1 ?_
  refine Ev.run 1 fd_e160 (i' := 17) (ls' := [fx_f 56, .inl (x1), .inl (x2), .inl (x3)]) (st' := [.inl (12), .inl ((M 57 (((24 * x1) + x3)).toNat)), .inl (x2)]) (M1 := M) rfl ?_
  refine Ev.icT fd_e160 rfl g.2 (by decide) (decide_eq_true h) ?_
  exact k
theorem r160_7F {X : fx_Sc} {M M' : fx_M} {r : Option fx_V} {x1 x2 x3 : Int} (g : (0 ≤ ((24 * x1) + x3) ∧ ((24 * x1) + x3) < ((150 : Nat) : Int)) ∧ (-2147483648 ≤ (M 57 (((24 * x1) + x3)).toNat) ∧ (M 57 (((24 * x1) + x3)).toNat) < 2147483648)) (h : 12 < (M 57 (((24 * x1) + x3)).toNat)) (k : Ev X 160 18 [fx_f 56, .inl (x1), .inl (x2), .inl (x3)] [.inl (x2)] M r M') : Ev X 160 7 [fx_f 56, .inl (x1), .inl (x2), .inl (x3)] [] M r M' := by
  refine Ev.run 8 fd_e160 (i' := 15) (ls' := [fx_f 56, .inl (x1), .inl (x2), .inl (x3)]) (st' := [.inl (((24 * x1) + x3)), fx_f 57, .inl (x2)]) (M1 := M) rfl ?_
  refine Ev.iald fd_e160 rfl rfl (by decide) g.1 ?_
  refine Ev.run 1 fd_e160 (i' := 17) (ls' := [fx_f 56, .inl (x1), .inl (x2), .inl (x3)]) (st' := [.inl (12), .inl ((M 57 (((24 * x1) + x3)).toNat)), .inl (x2)]) (M1 := M) rfl ?_
  refine Ev.icF fd_e160 rfl g.2 (by decide) (decide_eq_false (Int.not_le.mpr h)) ?_
  exact k
theorem r160_18 {X : fx_Sc} {M M' : fx_M} {r : Option fx_V} {x1 x2 x3 s0 : Int} (k : Ev X 160 4 [fx_f 56, .inl (x1), .inl ((s0 + 1)), .inl ((x3 + 1))] [] M r M') : Ev X 160 18 [fx_f 56, .inl (x1), .inl (x2), .inl (x3)] [.inl (s0)] M r M' := by
  refine Ev.run 6 fd_e160 (i' := 4) (ls' := [fx_f 56, .inl (x1), .inl ((s0 + 1)), .inl ((x3 + 1))]) (st' := []) (M1 := M) rfl ?_
  exact k
theorem r160_20 {X : fx_Sc} {M M' : fx_M} {r : Option fx_V} {x1 x2 x3 s0 : Int} (k : Ev X 160 4 [fx_f 56, .inl (x1), .inl ((s0 + 0)), .inl ((x3 + 1))] [] M r M') : Ev X 160 20 [fx_f 56, .inl (x1), .inl (x2), .inl (x3)] [.inl (s0)] M r M' := by
  refine Ev.run 5 fd_e160 (i' := 4) (ls' := [fx_f 56, .inl (x1), .inl ((s0 + 0)), .inl ((x3 + 1))]) (st' := []) (M1 := M) rfl ?_
  exact k
theorem r160_25 {X : fx_Sc} {M : fx_M} {x1 x2 x3 : Int} : Ev X 160 25 [fx_f 56, .inl (x1), .inl (x2), .inl (x3)] [] M (some (.inl (x2))) M := by
  refine Ev.run 1 fd_e160 (i' := 26) (ls' := [fx_f 56, .inl (x1), .inl (x2), .inl (x3)]) (st' := [.inl (x2)]) (M1 := M) rfl ?_
  exact Ev.ret1 fd_e160 rfl rfl
-- 161: FoldedStripsModel.fold(II)I
theorem fd_e161 : fd_C 161 = fd_c161 := rfl
theorem r161_0 {X : fx_Sc} {M M' : fx_M} {r : Option fx_V} {x1 x2 z : Int} {M1 : fx_M} (hc : Ev X 117 0 [.inl (x1), .inl (0), .inl (4)] [] M (some (.inl z)) M1) (k : Ev X 161 4 [fx_f 56, .inl (x1), .inl (x2), fx_u] [.inl (z)] M1 r M') : Ev X 161 0 [fx_f 56, .inl (x1), .inl (x2), fx_u] [] M r M' := by
  refine Ev.run 3 fd_e161 (i' := 3) (ls' := [fx_f 56, .inl (x1), .inl (x2), fx_u]) (st' := [.inl (4), .inl (0), .inl (x1)]) (M1 := M) rfl ?_
  refine Ev.callS (vs := [.inl (x1), .inl (0), .inl (4)]) (rest := []) (r1 := (some (.inl z))) fd_e161 rfl rfl rfl (Nat.le_of_ble_eq_true rfl) (Nat.le_of_ble_eq_true rfl) hc ?_
  exact k
theorem r161_4T {X : fx_Sc} {M M' : fx_M} {r : Option fx_V} {x1 x2 s0 : Int} (g : (-2147483648 ≤ s0 ∧ s0 < 2147483648)) (h : s0 ≠ 0) (k : Ev X 161 7 [fx_f 56, .inl (x1), .inl (x2), fx_u] [] M r M') : Ev X 161 4 [fx_f 56, .inl (x1), .inl (x2), fx_u] [.inl (s0)] M r M' := by
  refine Ev.ifT fd_e161 rfl g (decide_eq_true h) ?_
  exact k
theorem r161_4F {X : fx_Sc} {M M' : fx_M} {r : Option fx_V} {x1 x2 s0 : Int} (g : (-2147483648 ≤ s0 ∧ s0 < 2147483648)) (h : s0 = 0) (k : Ev X 161 5 [fx_f 56, .inl (x1), .inl (x2), fx_u] [] M r M') : Ev X 161 4 [fx_f 56, .inl (x1), .inl (x2), fx_u] [.inl (s0)] M r M' := by
  refine Ev.ifF fd_e161 rfl g (decide_eq_false (not_not_intro h)) ?_
  exact k
theorem r161_5 {X : fx_Sc} {M : fx_M} {x1 x2 : Int} : Ev X 161 5 [fx_f 56, .inl (x1), .inl (x2), fx_u] [] M (some (.inl ((-1)))) M := by
  refine Ev.run 1 fd_e161 (i' := 6) (ls' := [fx_f 56, .inl (x1), .inl (x2), fx_u]) (st' := [.inl ((-1))]) (M1 := M) rfl ?_
  exact Ev.ret1 fd_e161 rfl rfl
theorem r161_7 {X : fx_Sc} {M M' : fx_M} {r : Option fx_V} {x1 x2 z : Int} {M1 : fx_M} (hc : Ev X 157 0 [fx_f 56, .inl (((24 * x1) + 12)), fx_u, fx_u] [] M (some (.inl z)) M1) (k : Ev X 161 14 [fx_f 56, .inl (x1), .inl (x2), fx_u] [.inl (z)] M1 r M') : Ev X 161 7 [fx_f 56, .inl (x1), .inl (x2), fx_u] [] M r M' := by
  refine Ev.run 6 fd_e161 (i' := 13) (ls' := [fx_f 56, .inl (x1), .inl (x2), fx_u]) (st' := [.inl (((24 * x1) + 12)), fx_f 56]) (M1 := M) rfl ?_
  refine Ev.callV (vs := [fx_f 56, .inl (((24 * x1) + 12))]) (rest := []) (r1 := (some (.inl z))) fd_e161 rfl rfl rfl (Nat.le_of_ble_eq_true rfl) (Nat.le_of_ble_eq_true rfl) rfl hc ?_
  exact k
theorem r161_14D {X : fx_Sc} {M M' : fx_M} {r : Option fx_V} {x1 x2 s0 : Int} (g : (-2147483648 ≤ x2 ∧ x2 < 2147483648)) (h : x2 < 0 ∨ 3 < x2) (k : Ev X 161 36 [fx_f 56, .inl (x1), .inl (x2), .inl (s0)] [] M r M') : Ev X 161 14 [fx_f 56, .inl (x1), .inl (x2), fx_u] [.inl (s0)] M r M' := by
  refine Ev.run 2 fd_e161 (i' := 16) (ls' := [fx_f 56, .inl (x1), .inl (x2), .inl (s0)]) (st' := [.inl (x2)]) (M1 := M) rfl ?_
  refine Ev.tsO fd_e161 rfl g h ?_
  exact k
theorem r161_14c0 {X : fx_Sc} {M M' : fx_M} {r : Option fx_V} {x1 x2 s0 : Int} (h : x2 = 0) (k : Ev X 161 17 [fx_f 56, .inl (x1), .inl (x2), .inl (s0)] [] M r M') : Ev X 161 14 [fx_f 56, .inl (x1), .inl (x2), fx_u] [.inl (s0)] M r M' := by
  refine Ev.run 2 fd_e161 (i' := 16) (ls' := [fx_f 56, .inl (x1), .inl (x2), .inl (s0)]) (st' := [.inl (x2)]) (M1 := M) rfl ?_
  refine Ev.tsI (t := 17) fd_e161 rfl (by rw [h]; decide) (by rw [h]; decide) (by rw [h]; rfl) ?_
  exact k
theorem r161_14c1 {X : fx_Sc} {M M' : fx_M} {r : Option fx_V} {x1 x2 s0 : Int} (h : x2 = 1) (k : Ev X 161 19 [fx_f 56, .inl (x1), .inl (x2), .inl (s0)] [] M r M') : Ev X 161 14 [fx_f 56, .inl (x1), .inl (x2), fx_u] [.inl (s0)] M r M' := by
  refine Ev.run 2 fd_e161 (i' := 16) (ls' := [fx_f 56, .inl (x1), .inl (x2), .inl (s0)]) (st' := [.inl (x2)]) (M1 := M) rfl ?_
  refine Ev.tsI (t := 19) fd_e161 rfl (by rw [h]; decide) (by rw [h]; decide) (by rw [h]; rfl) ?_
  exact k
theorem r161_14c2 {X : fx_Sc} {M M' : fx_M} {r : Option fx_V} {x1 x2 s0 : Int} (h : x2 = 2) (k : Ev X 161 29 [fx_f 56, .inl (x1), .inl (x2), .inl (s0)] [] M r M') : Ev X 161 14 [fx_f 56, .inl (x1), .inl (x2), fx_u] [.inl (s0)] M r M' := by
  refine Ev.run 2 fd_e161 (i' := 16) (ls' := [fx_f 56, .inl (x1), .inl (x2), .inl (s0)]) (st' := [.inl (x2)]) (M1 := M) rfl ?_
  refine Ev.tsI (t := 29) fd_e161 rfl (by rw [h]; decide) (by rw [h]; decide) (by rw [h]; rfl) ?_
  exact k
theorem r161_14c3 {X : fx_Sc} {M M' : fx_M} {r : Option fx_V} {x1 x2 s0 : Int} (h : x2 = 3) (k : Ev X 161 29 [fx_f 56, .inl (x1), .inl (x2), .inl (s0)] [] M r M') : Ev X 161 14 [fx_f 56, .inl (x1), .inl (x2), fx_u] [.inl (s0)] M r M' := by
  refine Ev.run 2 fd_e161 (i' := 16) (ls' := [fx_f 56, .inl (x1), .inl (x2), .inl (s0)]) (st' := [.inl (x2)]) (M1 := M) rfl ?_
  refine Ev.tsI (t := 29) fd_e161 rfl (by rw [h]; decide) (by rw [h]; decide) (by rw [h]; rfl) ?_
  exact k
theorem r161_17 {X : fx_Sc} {M : fx_M} {x1 x2 x3 : Int} : Ev X 161 17 [fx_f 56, .inl (x1), .inl (x2), .inl (x3)] [] M (some (.inl (x3))) M := by
  refine Ev.run 1 fd_e161 (i' := 18) (ls' := [fx_f 56, .inl (x1), .inl (x2), .inl (x3)]) (st' := [.inl (x3)]) (M1 := M) rfl ?_
  exact Ev.ret1 fd_e161 rfl rfl
theorem r161_19 {X : fx_Sc} {M M' : fx_M} {r : Option fx_V} {x1 x2 x3 z : Int} {M1 : fx_M} (hc : Ev X 157 0 [fx_f 56, .inl (((24 * x1) + 24)), fx_u, fx_u] [] M (some (.inl z)) M1) (k : Ev X 161 27 [fx_f 56, .inl (x1), .inl (x2), .inl (x3)] [.inl (z), .inl (x3)] M1 r M') : Ev X 161 19 [fx_f 56, .inl (x1), .inl (x2), .inl (x3)] [] M r M' := by
  refine Ev.run 7 fd_e161 (i' := 26) (ls' := [fx_f 56, .inl (x1), .inl (x2), .inl (x3)]) (st' := [.inl (((24 * x1) + 24)), fx_f 56, .inl (x3)]) (M1 := M) rfl ?_
  refine Ev.callV (vs := [fx_f 56, .inl (((24 * x1) + 24))]) (rest := [.inl (x3)]) (r1 := (some (.inl z))) fd_e161 rfl rfl rfl (Nat.le_of_ble_eq_true rfl) (Nat.le_of_ble_eq_true rfl) rfl hc ?_
  exact k
theorem r161_27 {X : fx_Sc} {M : fx_M} {x1 x2 x3 s0 s1 : Int} : Ev X 161 27 [fx_f 56, .inl (x1), .inl (x2), .inl (x3)] [.inl (s1), .inl (s0)] M (some (.inl ((fx_and s0 s1)))) M := by
  refine Ev.run 1 fd_e161 (i' := 28) (ls' := [fx_f 56, .inl (x1), .inl (x2), .inl (x3)]) (st' := [.inl ((fx_and s0 s1))]) (M1 := M) rfl ?_
  exact Ev.ret1 fd_e161 rfl rfl
theorem r161_29 {X : fx_Sc} {M M' : fx_M} {r : Option fx_V} {x1 x2 x3 z : Int} {M1 : fx_M} (hc : Ev X 162 0 [fx_f 56, .inl (x1), .inl ((x2 - 2)), fx_u, fx_u] [] M (some (.inl z)) M1) (k : Ev X 161 35 [fx_f 56, .inl (x1), .inl (x2), .inl (x3)] [.inl (z)] M1 r M') : Ev X 161 29 [fx_f 56, .inl (x1), .inl (x2), .inl (x3)] [] M r M' := by
  refine Ev.run 5 fd_e161 (i' := 34) (ls' := [fx_f 56, .inl (x1), .inl (x2), .inl (x3)]) (st' := [.inl ((x2 - 2)), .inl (x1), fx_f 56]) (M1 := M) rfl ?_
  refine Ev.callV (vs := [fx_f 56, .inl (x1), .inl ((x2 - 2))]) (rest := []) (r1 := (some (.inl z))) fd_e161 rfl rfl rfl (Nat.le_of_ble_eq_true rfl) (Nat.le_of_ble_eq_true rfl) rfl hc ?_
  exact k
theorem r161_35 {X : fx_Sc} {M : fx_M} {x1 x2 x3 s0 : Int} : Ev X 161 35 [fx_f 56, .inl (x1), .inl (x2), .inl (x3)] [.inl (s0)] M (some (.inl (s0))) M := by
  exact Ev.ret1 fd_e161 rfl rfl
theorem r161_36 {X : fx_Sc} {M : fx_M} {x1 x2 x3 : Int} : Ev X 161 36 [fx_f 56, .inl (x1), .inl (x2), .inl (x3)] [] M (some (.inl ((-2)))) M := by
  refine Ev.run 1 fd_e161 (i' := 37) (ls' := [fx_f 56, .inl (x1), .inl (x2), .inl (x3)]) (st' := [.inl ((-2))]) (M1 := M) rfl ?_
  exact Ev.ret1 fd_e161 rfl rfl
-- 162: FoldedStripsModel.faults(II)I
theorem fd_e162 : fd_C 162 = fd_c162 := rfl
theorem r162_0 {X : fx_Sc} {M M' : fx_M} {r : Option fx_V} {x1 x2 z : Int} {M1 : fx_M} (hc : Ev X 157 0 [fx_f 56, .inl (((24 * x1) + 12)), fx_u, fx_u] [] M (some (.inl z)) M1) (k : Ev X 162 7 [fx_f 56, .inl (x1), .inl (x2), fx_u, fx_u] [.inl (z)] M1 r M') : Ev X 162 0 [fx_f 56, .inl (x1), .inl (x2), fx_u, fx_u] [] M r M' := by
  refine Ev.run 6 fd_e162 (i' := 6) (ls' := [fx_f 56, .inl (x1), .inl (x2), fx_u, fx_u]) (st' := [.inl (((24 * x1) + 12)), fx_f 56]) (M1 := M) rfl ?_
  refine Ev.callV (vs := [fx_f 56, .inl (((24 * x1) + 12))]) (rest := []) (r1 := (some (.inl z))) fd_e162 rfl rfl rfl (Nat.le_of_ble_eq_true rfl) (Nat.le_of_ble_eq_true rfl) rfl hc ?_
  exact k
theorem r162_7 {X : fx_Sc} {M M' : fx_M} {r : Option fx_V} {x1 x2 s0 z : Int} {M1 : fx_M} (hc : Ev X 157 0 [fx_f 56, .inl (((24 * x1) + 24)), fx_u, fx_u] [] M (some (.inl z)) M1) (k : Ev X 162 15 [fx_f 56, .inl (x1), .inl (x2), .inl (s0), fx_u] [.inl (z)] M1 r M') : Ev X 162 7 [fx_f 56, .inl (x1), .inl (x2), fx_u, fx_u] [.inl (s0)] M r M' := by
  refine Ev.run 7 fd_e162 (i' := 14) (ls' := [fx_f 56, .inl (x1), .inl (x2), .inl (s0), fx_u]) (st' := [.inl (((24 * x1) + 24)), fx_f 56]) (M1 := M) rfl ?_
  refine Ev.callV (vs := [fx_f 56, .inl (((24 * x1) + 24))]) (rest := []) (r1 := (some (.inl z))) fd_e162 rfl rfl rfl (Nat.le_of_ble_eq_true rfl) (Nat.le_of_ble_eq_true rfl) rfl hc ?_
  exact k
theorem r162_15T {X : fx_Sc} {M M' : fx_M} {r : Option fx_V} {x1 x2 x3 s0 : Int} (g : (-2147483648 ≤ x2 ∧ x2 < 2147483648)) (h : x2 ≠ 0) (k : Ev X 162 24 [fx_f 56, .inl (x1), .inl (x2), .inl (x3), .inl (s0)] [] M r M') : Ev X 162 15 [fx_f 56, .inl (x1), .inl (x2), .inl (x3), fx_u] [.inl (s0)] M r M' := by
  refine Ev.run 2 fd_e162 (i' := 17) (ls' := [fx_f 56, .inl (x1), .inl (x2), .inl (x3), .inl (s0)]) (st' := [.inl (x2)]) (M1 := M) rfl ?_
  refine Ev.ifT fd_e162 rfl g (decide_eq_true h) ?_
  exact k
theorem r162_15F {X : fx_Sc} {M M' : fx_M} {r : Option fx_V} {x1 x2 x3 s0 : Int} (g : (-2147483648 ≤ x2 ∧ x2 < 2147483648)) (h : x2 = 0) (k : Ev X 162 18 [fx_f 56, .inl (x1), .inl (x2), .inl (x3), .inl (s0)] [] M r M') : Ev X 162 15 [fx_f 56, .inl (x1), .inl (x2), .inl (x3), fx_u] [.inl (s0)] M r M' := by
  refine Ev.run 2 fd_e162 (i' := 17) (ls' := [fx_f 56, .inl (x1), .inl (x2), .inl (x3), .inl (s0)]) (st' := [.inl (x2)]) (M1 := M) rfl ?_
  refine Ev.ifF fd_e162 rfl g (decide_eq_false (not_not_intro h)) ?_
  exact k
theorem r162_18 {X : fx_Sc} {M : fx_M} {x1 x2 x3 x4 : Int} : Ev X 162 18 [fx_f 56, .inl (x1), .inl (x2), .inl (x3), .inl (x4)] [] M (some (.inl ((fx_and x3 (fx_xor x4 (-1)))))) M := by
  refine Ev.run 6 fd_e162 (i' := 29) (ls' := [fx_f 56, .inl (x1), .inl (x2), .inl (x3), .inl (x4)]) (st' := [.inl ((fx_and x3 (fx_xor x4 (-1))))]) (M1 := M) rfl ?_
  exact Ev.ret1 fd_e162 rfl rfl
theorem r162_24 {X : fx_Sc} {M : fx_M} {x1 x2 x3 x4 : Int} : Ev X 162 24 [fx_f 56, .inl (x1), .inl (x2), .inl (x3), .inl (x4)] [] M (some (.inl ((fx_and x4 (fx_xor x3 (-1)))))) M := by
  refine Ev.run 5 fd_e162 (i' := 29) (ls' := [fx_f 56, .inl (x1), .inl (x2), .inl (x3), .inl (x4)]) (st' := [.inl ((fx_and x4 (fx_xor x3 (-1))))]) (M1 := M) rfl ?_
  exact Ev.ret1 fd_e162 rfl rfl
-- 163: FoldedStripsModel.hand(II)I
theorem fd_e163 : fd_C 163 = fd_c163 := rfl
theorem r163_0 {X : fx_Sc} {M M' : fx_M} {r : Option fx_V} {x1 x2 z : Int} {M1 : fx_M} (hc : Ev X 117 0 [.inl (x1), .inl (0), .inl (5)] [] M (some (.inl z)) M1) (k : Ev X 163 4 [fx_f 56, .inl (x1), .inl (x2)] [.inl (z)] M1 r M') : Ev X 163 0 [fx_f 56, .inl (x1), .inl (x2)] [] M r M' := by
  refine Ev.run 3 fd_e163 (i' := 3) (ls' := [fx_f 56, .inl (x1), .inl (x2)]) (st' := [.inl (5), .inl (0), .inl (x1)]) (M1 := M) rfl ?_
  refine Ev.callS (vs := [.inl (x1), .inl (0), .inl (5)]) (rest := []) (r1 := (some (.inl z))) fd_e163 rfl rfl rfl (Nat.le_of_ble_eq_true rfl) (Nat.le_of_ble_eq_true rfl) hc ?_
  exact k
theorem r163_4T {X : fx_Sc} {M M' : fx_M} {r : Option fx_V} {x1 x2 s0 : Int} (g : (-2147483648 ≤ s0 ∧ s0 < 2147483648)) (h : s0 ≠ 0) (k : Ev X 163 7 [fx_f 56, .inl (x1), .inl (x2)] [] M r M') : Ev X 163 4 [fx_f 56, .inl (x1), .inl (x2)] [.inl (s0)] M r M' := by
  refine Ev.ifT fd_e163 rfl g (decide_eq_true h) ?_
  exact k
theorem r163_4F {X : fx_Sc} {M M' : fx_M} {r : Option fx_V} {x1 x2 s0 : Int} (g : (-2147483648 ≤ s0 ∧ s0 < 2147483648)) (h : s0 = 0) (k : Ev X 163 5 [fx_f 56, .inl (x1), .inl (x2)] [] M r M') : Ev X 163 4 [fx_f 56, .inl (x1), .inl (x2)] [.inl (s0)] M r M' := by
  refine Ev.ifF fd_e163 rfl g (decide_eq_false (not_not_intro h)) ?_
  exact k
theorem r163_5 {X : fx_Sc} {M : fx_M} {x1 x2 : Int} : Ev X 163 5 [fx_f 56, .inl (x1), .inl (x2)] [] M (some (.inl ((-1)))) M := by
  refine Ev.run 1 fd_e163 (i' := 6) (ls' := [fx_f 56, .inl (x1), .inl (x2)]) (st' := [.inl ((-1))]) (M1 := M) rfl ?_
  exact Ev.ret1 fd_e163 rfl rfl
theorem r163_7 {X : fx_Sc} {M M' : fx_M} {r : Option fx_V} {x1 x2 z : Int} {M1 : fx_M} (hc : Ev X 117 0 [.inl (x2), .inl (0), .inl (3)] [] M (some (.inl z)) M1) (k : Ev X 163 11 [fx_f 56, .inl (x1), .inl (x2)] [.inl (z)] M1 r M') : Ev X 163 7 [fx_f 56, .inl (x1), .inl (x2)] [] M r M' := by
  refine Ev.run 3 fd_e163 (i' := 10) (ls' := [fx_f 56, .inl (x1), .inl (x2)]) (st' := [.inl (3), .inl (0), .inl (x2)]) (M1 := M) rfl ?_
  refine Ev.callS (vs := [.inl (x2), .inl (0), .inl (3)]) (rest := []) (r1 := (some (.inl z))) fd_e163 rfl rfl rfl (Nat.le_of_ble_eq_true rfl) (Nat.le_of_ble_eq_true rfl) hc ?_
  exact k
theorem r163_11T {X : fx_Sc} {M M' : fx_M} {r : Option fx_V} {x1 x2 s0 : Int} (g : (-2147483648 ≤ s0 ∧ s0 < 2147483648)) (h : s0 = 0) (k : Ev X 163 17 [fx_f 56, .inl (x1), .inl (x2)] [] M r M') : Ev X 163 11 [fx_f 56, .inl (x1), .inl (x2)] [.inl (s0)] M r M' := by
  refine Ev.ifT fd_e163 rfl g (decide_eq_true h) ?_
  exact k
theorem r163_11F {X : fx_Sc} {M M' : fx_M} {r : Option fx_V} {x1 x2 s0 : Int} (g : (-2147483648 ≤ s0 ∧ s0 < 2147483648)) (h : s0 ≠ 0) (k : Ev X 163 12 [fx_f 56, .inl (x1), .inl (x2)] [] M r M') : Ev X 163 11 [fx_f 56, .inl (x1), .inl (x2)] [.inl (s0)] M r M' := by
  refine Ev.ifF fd_e163 rfl g (decide_eq_false h) ?_
  exact k
theorem r163_12 {X : fx_Sc} {M M' : fx_M} {r : Option fx_V} {x1 x2 z : Int} {M1 : fx_M} (hc : Ev X 164 0 [fx_f 56, .inl (x1), .inl (x2), fx_u, fx_u, fx_u, fx_u, fx_u] [] M (some (.inl z)) M1) (k : Ev X 163 16 [fx_f 56, .inl (x1), .inl (x2)] [.inl (z)] M1 r M') : Ev X 163 12 [fx_f 56, .inl (x1), .inl (x2)] [] M r M' := by
  refine Ev.run 3 fd_e163 (i' := 15) (ls' := [fx_f 56, .inl (x1), .inl (x2)]) (st' := [.inl (x2), .inl (x1), fx_f 56]) (M1 := M) rfl ?_
  refine Ev.callV (vs := [fx_f 56, .inl (x1), .inl (x2)]) (rest := []) (r1 := (some (.inl z))) fd_e163 rfl rfl rfl (Nat.le_of_ble_eq_true rfl) (Nat.le_of_ble_eq_true rfl) rfl hc ?_
  exact k
theorem r163_16 {X : fx_Sc} {M : fx_M} {x1 x2 s0 : Int} : Ev X 163 16 [fx_f 56, .inl (x1), .inl (x2)] [.inl (s0)] M (some (.inl (s0))) M := by
  refine Ev.run 1 fd_e163 (i' := 18) (ls' := [fx_f 56, .inl (x1), .inl (x2)]) (st' := [.inl (s0)]) (M1 := M) rfl ?_
  exact Ev.ret1 fd_e163 rfl rfl
theorem r163_17 {X : fx_Sc} {M : fx_M} {x1 x2 : Int} : Ev X 163 17 [fx_f 56, .inl (x1), .inl (x2)] [] M (some (.inl ((-2)))) M := by
  refine Ev.run 1 fd_e163 (i' := 18) (ls' := [fx_f 56, .inl (x1), .inl (x2)]) (st' := [.inl ((-2))]) (M1 := M) rfl ?_
  exact Ev.ret1 fd_e163 rfl rfl
-- 164: FoldedStripsModel.ofHand(II)I
theorem fd_e164 : fd_C 164 = fd_c164 := rfl
theorem r164_0 {X : fx_Sc} {M M' : fx_M} {r : Option fx_V} {x1 x2 : Int} (k : Ev X 164 4 [fx_f 56, .inl (x1), .inl (x2), .inl (0), .inl (0), fx_u, fx_u, fx_u] [] M r M') : Ev X 164 0 [fx_f 56, .inl (x1), .inl (x2), fx_u, fx_u, fx_u, fx_u, fx_u] [] M r M' := by
  refine Ev.run 4 fd_e164 (i' := 4) (ls' := [fx_f 56, .inl (x1), .inl (x2), .inl (0), .inl (0), fx_u, fx_u, fx_u]) (st' := []) (M1 := M) rfl ?_
  exact k
theorem r164_4T {X : fx_Sc} {M M' : fx_M} {r : Option fx_V} {x1 x2 x3 x4 : Int} {v5 v6 v7 : fx_V} (g : (-2147483648 ≤ x4 ∧ x4 < 2147483648)) (h : 6 ≤ x4) (k : Ev X 164 77 [fx_f 56, .inl (x1), .inl (x2), .inl (x3), .inl (x4), v5, v6, v7] [] M r M') : Ev X 164 4 [fx_f 56, .inl (x1), .inl (x2), .inl (x3), .inl (x4), v5, v6, v7] [] M r M' := by
  refine Ev.run 2 fd_e164 (i' := 6) (ls' := [fx_f 56, .inl (x1), .inl (x2), .inl (x3), .inl (x4), v5, v6, v7]) (st' := [.inl (6), .inl (x4)]) (M1 := M) rfl ?_
  refine Ev.icT fd_e164 rfl g (by decide) (decide_eq_true h) ?_
  exact k
theorem r164_4F {X : fx_Sc} {M M' : fx_M} {r : Option fx_V} {x1 x2 x3 x4 : Int} {v5 v6 v7 : fx_V} (g : (-2147483648 ≤ x4 ∧ x4 < 2147483648)) (h : x4 < 6) (k : Ev X 164 7 [fx_f 56, .inl (x1), .inl (x2), .inl (x3), .inl (x4), v5, v6, v7] [] M r M') : Ev X 164 4 [fx_f 56, .inl (x1), .inl (x2), .inl (x3), .inl (x4), v5, v6, v7] [] M r M' := by
  refine Ev.run 2 fd_e164 (i' := 6) (ls' := [fx_f 56, .inl (x1), .inl (x2), .inl (x3), .inl (x4), v5, v6, v7]) (st' := [.inl (6), .inl (x4)]) (M1 := M) rfl ?_
  refine Ev.icF fd_e164 rfl g (by decide) (decide_eq_false (Int.not_le.mpr h)) ?_
  exact k
theorem r164_7T {X : fx_Sc} {M M' : fx_M} {r : Option fx_V} {x1 x2 x3 x4 : Int} {v5 v6 v7 : fx_V} (g : (0 ≤ (144 + x4) ∧ (144 + x4) < ((150 : Nat) : Int)) ∧ (-2147483648 ≤ (M 57 ((144 + x4)).toNat) ∧ (M 57 ((144 + x4)).toNat) < 2147483648) ∧ (-2147483648 ≤ x1 ∧ x1 < 2147483648)) (h : (M 57 ((144 + x4)).toNat) ≠ x1) (k : Ev X 164 17 [fx_f 56, .inl (x1), .inl (x2), .inl (x3), .inl (x4), v5, v6, v7] [] M r M') : Ev X 164 7 [fx_f 56, .inl (x1), .inl (x2), .inl (x3), .inl (x4), v5, v6, v7] [] M r M' := by
  refine Ev.run 5 fd_e164 (i' := 12) (ls' := [fx_f 56, .inl (x1), .inl (x2), .inl (x3), .inl (x4), v5, v6, v7]) (st' := [.inl ((144 + x4)), fx_f 57]) (M1 := M) rfl ?_
  refine Ev.iald fd_e164 rfl rfl (by decide) g.1 ?_
  refine Ev.run 1 fd_e164 (i' := 14) (ls' := [fx_f 56, .inl (x1), .inl (x2), .inl (x3), .inl (x4), v5, v6, v7]) (st' := [.inl (x1), .inl ((M 57 ((144 + x4)).toNat))]) (M1 := M) rfl ?_
  refine Ev.icT fd_e164 rfl g.2.1 g.2.2 (decide_eq_true h) ?_
  exact k
theorem r164_7F {X : fx_Sc} {M M' : fx_M} {r : Option fx_V} {x1 x2 x3 x4 : Int} {v5 v6 v7 : fx_V} (g : (0 ≤ (144 + x4) ∧ (144 + x4) < ((150 : Nat) : Int)) ∧ (-2147483648 ≤ (M 57 ((144 + x4)).toNat) ∧ (M 57 ((144 + x4)).toNat) < 2147483648) ∧ (-2147483648 ≤ x1 ∧ x1 < 2147483648)) (h : (M 57 ((144 + x4)).toNat) = x1) (k : Ev X 164 15 [fx_f 56, .inl (x1), .inl (x2), .inl (x3), .inl (x4), v5, v6, v7] [] M r M') : Ev X 164 7 [fx_f 56, .inl (x1), .inl (x2), .inl (x3), .inl (x4), v5, v6, v7] [] M r M' := by
  refine Ev.run 5 fd_e164 (i' := 12) (ls' := [fx_f 56, .inl (x1), .inl (x2), .inl (x3), .inl (x4), v5, v6, v7]) (st' := [.inl ((144 + x4)), fx_f 57]) (M1 := M) rfl ?_
  refine Ev.iald fd_e164 rfl rfl (by decide) g.1 ?_
  refine Ev.run 1 fd_e164 (i' := 14) (ls' := [fx_f 56, .inl (x1), .inl (x2), .inl (x3), .inl (x4), v5, v6, v7]) (st' := [.inl (x1), .inl ((M 57 ((144 + x4)).toNat))]) (M1 := M) rfl ?_
  refine Ev.icF fd_e164 rfl g.2.1 g.2.2 (decide_eq_false (not_not_intro h)) ?_
  exact k
theorem r164_15T {X : fx_Sc} {M M' : fx_M} {r : Option fx_V} {x1 x2 x3 x4 : Int} {v5 v6 v7 : fx_V} (g : (-2147483648 ≤ x4 ∧ x4 < 2147483648)) (h : x4 ≤ 0) (k : Ev X 164 31 [fx_f 56, .inl (x1), .inl (x2), .inl (x3), .inl (x4), .inl (1), v6, v7] [] M r M') : Ev X 164 15 [fx_f 56, .inl (x1), .inl (x2), .inl (x3), .inl (x4), v5, v6, v7] [] M r M' := by
  refine Ev.run 4 fd_e164 (i' := 20) (ls' := [fx_f 56, .inl (x1), .inl (x2), .inl (x3), .inl (x4), .inl (1), v6, v7]) (st' := [.inl (1)]) (M1 := M) rfl ?_
  refine Ev.ifF fd_e164 rfl (by decide) (by decide) ?_
  refine Ev.run 1 fd_e164 (i' := 22) (ls' := [fx_f 56, .inl (x1), .inl (x2), .inl (x3), .inl (x4), .inl (1), v6, v7]) (st' := [.inl (x4)]) (M1 := M) rfl ?_
  refine Ev.ifT fd_e164 rfl g (decide_eq_true h) ?_
  exact k
theorem r164_15F {X : fx_Sc} {M M' : fx_M} {r : Option fx_V} {x1 x2 x3 x4 : Int} {v5 v6 v7 : fx_V} (g : (-2147483648 ≤ x4 ∧ x4 < 2147483648)) (h : 0 < x4) (k : Ev X 164 23 [fx_f 56, .inl (x1), .inl (x2), .inl (x3), .inl (x4), .inl (1), v6, v7] [] M r M') : Ev X 164 15 [fx_f 56, .inl (x1), .inl (x2), .inl (x3), .inl (x4), v5, v6, v7] [] M r M' := by
  refine Ev.run 4 fd_e164 (i' := 20) (ls' := [fx_f 56, .inl (x1), .inl (x2), .inl (x3), .inl (x4), .inl (1), v6, v7]) (st' := [.inl (1)]) (M1 := M) rfl ?_
  refine Ev.ifF fd_e164 rfl (by decide) (by decide) ?_
  refine Ev.run 1 fd_e164 (i' := 22) (ls' := [fx_f 56, .inl (x1), .inl (x2), .inl (x3), .inl (x4), .inl (1), v6, v7]) (st' := [.inl (x4)]) (M1 := M) rfl ?_
  refine Ev.ifF fd_e164 rfl g (decide_eq_false (Int.not_le.mpr h)) ?_
  exact k
theorem r164_17 {X : fx_Sc} {M M' : fx_M} {r : Option fx_V} {x1 x2 x3 x4 : Int} {v5 v6 v7 : fx_V} (k : Ev X 164 4 [fx_f 56, .inl (x1), .inl (x2), .inl ((x3 + 0)), .inl ((x4 + 1)), .inl (0), .inl (0), .inl (0)] [] M r M') : Ev X 164 17 [fx_f 56, .inl (x1), .inl (x2), .inl (x3), .inl (x4), v5, v6, v7] [] M r M' := by
  refine Ev.run 3 fd_e164 (i' := 20) (ls' := [fx_f 56, .inl (x1), .inl (x2), .inl (x3), .inl (x4), .inl (0), v6, v7]) (st' := [.inl (0)]) (M1 := M) rfl ?_
  refine Ev.ifT fd_e164 rfl (by decide) (by decide) ?_
  refine Ev.run 3 fd_e164 (i' := 34) (ls' := [fx_f 56, .inl (x1), .inl (x2), .inl (x3), .inl (x4), .inl (0), .inl (0), v7]) (st' := [.inl (0)]) (M1 := M) rfl ?_
  refine Ev.ifT fd_e164 rfl (by decide) (by decide) ?_
  refine Ev.run 4 fd_e164 (i' := 49) (ls' := [fx_f 56, .inl (x1), .inl (x2), .inl (x3), .inl (x4), .inl (0), .inl (0), .inl (0)]) (st' := [.inl (0), .inl (x3)]) (M1 := M) rfl ?_
  refine Ev.ifF fd_e164 rfl (by decide) (by decide) ?_
  refine Ev.run 6 fd_e164 (i' := 4) (ls' := [fx_f 56, .inl (x1), .inl (x2), .inl ((x3 + 0)), .inl ((x4 + 1)), .inl (0), .inl (0), .inl (0)]) (st' := []) (M1 := M) rfl ?_
  exact k
theorem r164_21T {X : fx_Sc} {M M' : fx_M} {r : Option fx_V} {x1 x2 x3 x4 x5 : Int} {v6 v7 : fx_V} (g : (-2147483648 ≤ x4 ∧ x4 < 2147483648)) (h : x4 ≤ 0) (k : Ev X 164 31 [fx_f 56, .inl (x1), .inl (x2), .inl (x3), .inl (x4), .inl (x5), v6, v7] [] M r M') : Ev X 164 21 [fx_f 56, .inl (x1), .inl (x2), .inl (x3), .inl (x4), .inl (x5), v6, v7] [] M r M' := by
  refine Ev.run 1 fd_e164 (i' := 22) (ls' := [fx_f 56, .inl (x1), .inl (x2), .inl (x3), .inl (x4), .inl (x5), v6, v7]) (st' := [.inl (x4)]) (M1 := M) rfl ?_
  refine Ev.ifT fd_e164 rfl g (decide_eq_true h) ?_
  exact k
theorem r164_21F {X : fx_Sc} {M M' : fx_M} {r : Option fx_V} {x1 x2 x3 x4 x5 : Int} {v6 v7 : fx_V} (g : (-2147483648 ≤ x4 ∧ x4 < 2147483648)) (h : 0 < x4) (k : Ev X 164 23 [fx_f 56, .inl (x1), .inl (x2), .inl (x3), .inl (x4), .inl (x5), v6, v7] [] M r M') : Ev X 164 21 [fx_f 56, .inl (x1), .inl (x2), .inl (x3), .inl (x4), .inl (x5), v6, v7] [] M r M' := by
  refine Ev.run 1 fd_e164 (i' := 22) (ls' := [fx_f 56, .inl (x1), .inl (x2), .inl (x3), .inl (x4), .inl (x5), v6, v7]) (st' := [.inl (x4)]) (M1 := M) rfl ?_
  refine Ev.ifF fd_e164 rfl g (decide_eq_false (Int.not_le.mpr h)) ?_
  exact k
theorem r164_23 {X : fx_Sc} {M M' : fx_M} {r : Option fx_V} {x1 x2 x3 x4 x5 z : Int} {v6 v7 : fx_V} {M1 : fx_M} (hc : Ev X 162 0 [fx_f 56, .inl ((x4 - 1)), .inl (1), fx_u, fx_u] [] M (some (.inl z)) M1) (k : Ev X 164 29 [fx_f 56, .inl (x1), .inl (x2), .inl (x3), .inl (x4), .inl (x5), v6, v7] [.inl (z)] M1 r M') : Ev X 164 23 [fx_f 56, .inl (x1), .inl (x2), .inl (x3), .inl (x4), .inl (x5), v6, v7] [] M r M' := by
  refine Ev.run 5 fd_e164 (i' := 28) (ls' := [fx_f 56, .inl (x1), .inl (x2), .inl (x3), .inl (x4), .inl (x5), v6, v7]) (st' := [.inl (1), .inl ((x4 - 1)), fx_f 56]) (M1 := M) rfl ?_
  refine Ev.callV (vs := [fx_f 56, .inl ((x4 - 1)), .inl (1)]) (rest := []) (r1 := (some (.inl z))) fd_e164 rfl rfl rfl (Nat.le_of_ble_eq_true rfl) (Nat.le_of_ble_eq_true rfl) rfl hc ?_
  exact k
theorem r164_29 {X : fx_Sc} {M M' : fx_M} {r : Option fx_V} {x1 x2 x3 x4 x5 s0 z : Int} {v6 v7 : fx_V} {M1 : fx_M} (hc : Ev X 165 0 [.inl (s0), fx_u, fx_u] [] M (some (.inl z)) M1) (k : Ev X 164 30 [fx_f 56, .inl (x1), .inl (x2), .inl (x3), .inl (x4), .inl (x5), v6, v7] [.inl (z)] M1 r M') : Ev X 164 29 [fx_f 56, .inl (x1), .inl (x2), .inl (x3), .inl (x4), .inl (x5), v6, v7] [.inl (s0)] M r M' := by
  refine Ev.callS (vs := [.inl (s0)]) (rest := []) (r1 := (some (.inl z))) fd_e164 rfl rfl rfl (Nat.le_of_ble_eq_true rfl) (Nat.le_of_ble_eq_true rfl) hc ?_
  exact k
theorem r164_30T {X : fx_Sc} {M M' : fx_M} {r : Option fx_V} {x1 x2 x3 x4 x5 s0 : Int} {v6 v7 : fx_V} (g : (-2147483648 ≤ x5 ∧ x5 < 2147483648)) (h : x5 = 0) (k : Ev X 164 45 [fx_f 56, .inl (x1), .inl (x2), .inl (x3), .inl (x4), .inl (x5), .inl (s0), v7] [] M r M') : Ev X 164 30 [fx_f 56, .inl (x1), .inl (x2), .inl (x3), .inl (x4), .inl (x5), v6, v7] [.inl (s0)] M r M' := by
  refine Ev.run 3 fd_e164 (i' := 34) (ls' := [fx_f 56, .inl (x1), .inl (x2), .inl (x3), .inl (x4), .inl (x5), .inl (s0), v7]) (st' := [.inl (x5)]) (M1 := M) rfl ?_
  refine Ev.ifT fd_e164 rfl g (decide_eq_true h) ?_
  exact k
theorem r164_30F {X : fx_Sc} {M M' : fx_M} {r : Option fx_V} {x1 x2 x3 x4 x5 s0 : Int} {v6 v7 : fx_V} (g : (-2147483648 ≤ x5 ∧ x5 < 2147483648)) (h : x5 ≠ 0) (k : Ev X 164 35 [fx_f 56, .inl (x1), .inl (x2), .inl (x3), .inl (x4), .inl (x5), .inl (s0), v7] [] M r M') : Ev X 164 30 [fx_f 56, .inl (x1), .inl (x2), .inl (x3), .inl (x4), .inl (x5), v6, v7] [.inl (s0)] M r M' := by
  refine Ev.run 3 fd_e164 (i' := 34) (ls' := [fx_f 56, .inl (x1), .inl (x2), .inl (x3), .inl (x4), .inl (x5), .inl (s0), v7]) (st' := [.inl (x5)]) (M1 := M) rfl ?_
  refine Ev.ifF fd_e164 rfl g (decide_eq_false h) ?_
  exact k
theorem r164_31T {X : fx_Sc} {M M' : fx_M} {r : Option fx_V} {x1 x2 x3 x4 x5 : Int} {v6 v7 : fx_V} (g : (-2147483648 ≤ x5 ∧ x5 < 2147483648)) (h : x5 = 0) (k : Ev X 164 45 [fx_f 56, .inl (x1), .inl (x2), .inl (x3), .inl (x4), .inl (x5), .inl (0), v7] [] M r M') : Ev X 164 31 [fx_f 56, .inl (x1), .inl (x2), .inl (x3), .inl (x4), .inl (x5), v6, v7] [] M r M' := by
  refine Ev.run 3 fd_e164 (i' := 34) (ls' := [fx_f 56, .inl (x1), .inl (x2), .inl (x3), .inl (x4), .inl (x5), .inl (0), v7]) (st' := [.inl (x5)]) (M1 := M) rfl ?_
  refine Ev.ifT fd_e164 rfl g (decide_eq_true h) ?_
  exact k
theorem r164_31F {X : fx_Sc} {M M' : fx_M} {r : Option fx_V} {x1 x2 x3 x4 x5 : Int} {v6 v7 : fx_V} (g : (-2147483648 ≤ x5 ∧ x5 < 2147483648)) (h : x5 ≠ 0) (k : Ev X 164 35 [fx_f 56, .inl (x1), .inl (x2), .inl (x3), .inl (x4), .inl (x5), .inl (0), v7] [] M r M') : Ev X 164 31 [fx_f 56, .inl (x1), .inl (x2), .inl (x3), .inl (x4), .inl (x5), v6, v7] [] M r M' := by
  refine Ev.run 3 fd_e164 (i' := 34) (ls' := [fx_f 56, .inl (x1), .inl (x2), .inl (x3), .inl (x4), .inl (x5), .inl (0), v7]) (st' := [.inl (x5)]) (M1 := M) rfl ?_
  refine Ev.ifF fd_e164 rfl g (decide_eq_false h) ?_
  exact k
theorem r164_35T {X : fx_Sc} {M M' : fx_M} {r : Option fx_V} {x1 x2 x3 x4 x5 x6 : Int} {v7 : fx_V} (g : (-2147483648 ≤ x4 ∧ x4 < 2147483648)) (h : x4 ≤ 0) (k : Ev X 164 45 [fx_f 56, .inl (x1), .inl (x2), .inl (x3), .inl (x4), .inl (x5), .inl (x6), v7] [] M r M') : Ev X 164 35 [fx_f 56, .inl (x1), .inl (x2), .inl (x3), .inl (x4), .inl (x5), .inl (x6), v7] [] M r M' := by
  refine Ev.run 1 fd_e164 (i' := 36) (ls' := [fx_f 56, .inl (x1), .inl (x2), .inl (x3), .inl (x4), .inl (x5), .inl (x6), v7]) (st' := [.inl (x4)]) (M1 := M) rfl ?_
  refine Ev.ifT fd_e164 rfl g (decide_eq_true h) ?_
  exact k
theorem r164_35F {X : fx_Sc} {M M' : fx_M} {r : Option fx_V} {x1 x2 x3 x4 x5 x6 : Int} {v7 : fx_V} (g : (-2147483648 ≤ x4 ∧ x4 < 2147483648)) (h : 0 < x4) (k : Ev X 164 37 [fx_f 56, .inl (x1), .inl (x2), .inl (x3), .inl (x4), .inl (x5), .inl (x6), v7] [] M r M') : Ev X 164 35 [fx_f 56, .inl (x1), .inl (x2), .inl (x3), .inl (x4), .inl (x5), .inl (x6), v7] [] M r M' := by
  refine Ev.run 1 fd_e164 (i' := 36) (ls' := [fx_f 56, .inl (x1), .inl (x2), .inl (x3), .inl (x4), .inl (x5), .inl (x6), v7]) (st' := [.inl (x4)]) (M1 := M) rfl ?_
  refine Ev.ifF fd_e164 rfl g (decide_eq_false (Int.not_le.mpr h)) ?_
  exact k
theorem r164_37 {X : fx_Sc} {M M' : fx_M} {r : Option fx_V} {x1 x2 x3 x4 x5 x6 z : Int} {v7 : fx_V} {M1 : fx_M} (hc : Ev X 162 0 [fx_f 56, .inl ((x4 - 1)), .inl (0), fx_u, fx_u] [] M (some (.inl z)) M1) (k : Ev X 164 43 [fx_f 56, .inl (x1), .inl (x2), .inl (x3), .inl (x4), .inl (x5), .inl (x6), v7] [.inl (z)] M1 r M') : Ev X 164 37 [fx_f 56, .inl (x1), .inl (x2), .inl (x3), .inl (x4), .inl (x5), .inl (x6), v7] [] M r M' := by
  refine Ev.run 5 fd_e164 (i' := 42) (ls' := [fx_f 56, .inl (x1), .inl (x2), .inl (x3), .inl (x4), .inl (x5), .inl (x6), v7]) (st' := [.inl (0), .inl ((x4 - 1)), fx_f 56]) (M1 := M) rfl ?_
  refine Ev.callV (vs := [fx_f 56, .inl ((x4 - 1)), .inl (0)]) (rest := []) (r1 := (some (.inl z))) fd_e164 rfl rfl rfl (Nat.le_of_ble_eq_true rfl) (Nat.le_of_ble_eq_true rfl) rfl hc ?_
  exact k
theorem r164_43 {X : fx_Sc} {M M' : fx_M} {r : Option fx_V} {x1 x2 x3 x4 x5 x6 s0 z : Int} {v7 : fx_V} {M1 : fx_M} (hc : Ev X 165 0 [.inl (s0), fx_u, fx_u] [] M (some (.inl z)) M1) (k : Ev X 164 44 [fx_f 56, .inl (x1), .inl (x2), .inl (x3), .inl (x4), .inl (x5), .inl (x6), v7] [.inl (z)] M1 r M') : Ev X 164 43 [fx_f 56, .inl (x1), .inl (x2), .inl (x3), .inl (x4), .inl (x5), .inl (x6), v7] [.inl (s0)] M r M' := by
  refine Ev.callS (vs := [.inl (s0)]) (rest := []) (r1 := (some (.inl z))) fd_e164 rfl rfl rfl (Nat.le_of_ble_eq_true rfl) (Nat.le_of_ble_eq_true rfl) hc ?_
  exact k
theorem r164_44T {X : fx_Sc} {M M' : fx_M} {r : Option fx_V} {x1 x2 x3 x4 x5 x6 s0 : Int} {v7 : fx_V} (g : (-2147483648 ≤ x5 ∧ x5 < 2147483648)) (h : x5 ≠ 0) (k : Ev X 164 52 [fx_f 56, .inl (x1), .inl (x2), .inl (x3), .inl (x4), .inl (x5), .inl (x6), .inl (s0)] [.inl (x3)] M r M') : Ev X 164 44 [fx_f 56, .inl (x1), .inl (x2), .inl (x3), .inl (x4), .inl (x5), .inl (x6), v7] [.inl (s0)] M r M' := by
  refine Ev.run 4 fd_e164 (i' := 49) (ls' := [fx_f 56, .inl (x1), .inl (x2), .inl (x3), .inl (x4), .inl (x5), .inl (x6), .inl (s0)]) (st' := [.inl (x5), .inl (x3)]) (M1 := M) rfl ?_
  refine Ev.ifT fd_e164 rfl g (decide_eq_true h) ?_
  exact k
theorem r164_44F {X : fx_Sc} {M M' : fx_M} {r : Option fx_V} {x1 x2 x3 x4 x5 x6 s0 : Int} {v7 : fx_V} (g : (-2147483648 ≤ x5 ∧ x5 < 2147483648)) (h : x5 = 0) (k : Ev X 164 50 [fx_f 56, .inl (x1), .inl (x2), .inl (x3), .inl (x4), .inl (x5), .inl (x6), .inl (s0)] [.inl (x3)] M r M') : Ev X 164 44 [fx_f 56, .inl (x1), .inl (x2), .inl (x3), .inl (x4), .inl (x5), .inl (x6), v7] [.inl (s0)] M r M' := by
  refine Ev.run 4 fd_e164 (i' := 49) (ls' := [fx_f 56, .inl (x1), .inl (x2), .inl (x3), .inl (x4), .inl (x5), .inl (x6), .inl (s0)]) (st' := [.inl (x5), .inl (x3)]) (M1 := M) rfl ?_
  refine Ev.ifF fd_e164 rfl g (decide_eq_false (not_not_intro h)) ?_
  exact k
theorem r164_45T {X : fx_Sc} {M M' : fx_M} {r : Option fx_V} {x1 x2 x3 x4 x5 x6 : Int} {v7 : fx_V} (g : (-2147483648 ≤ x5 ∧ x5 < 2147483648)) (h : x5 ≠ 0) (k : Ev X 164 52 [fx_f 56, .inl (x1), .inl (x2), .inl (x3), .inl (x4), .inl (x5), .inl (x6), .inl (0)] [.inl (x3)] M r M') : Ev X 164 45 [fx_f 56, .inl (x1), .inl (x2), .inl (x3), .inl (x4), .inl (x5), .inl (x6), v7] [] M r M' := by
  refine Ev.run 4 fd_e164 (i' := 49) (ls' := [fx_f 56, .inl (x1), .inl (x2), .inl (x3), .inl (x4), .inl (x5), .inl (x6), .inl (0)]) (st' := [.inl (x5), .inl (x3)]) (M1 := M) rfl ?_
  refine Ev.ifT fd_e164 rfl g (decide_eq_true h) ?_
  exact k
theorem r164_45F {X : fx_Sc} {M M' : fx_M} {r : Option fx_V} {x1 x2 x3 x4 x5 x6 : Int} {v7 : fx_V} (g : (-2147483648 ≤ x5 ∧ x5 < 2147483648)) (h : x5 = 0) (k : Ev X 164 50 [fx_f 56, .inl (x1), .inl (x2), .inl (x3), .inl (x4), .inl (x5), .inl (x6), .inl (0)] [.inl (x3)] M r M') : Ev X 164 45 [fx_f 56, .inl (x1), .inl (x2), .inl (x3), .inl (x4), .inl (x5), .inl (x6), v7] [] M r M' := by
  refine Ev.run 4 fd_e164 (i' := 49) (ls' := [fx_f 56, .inl (x1), .inl (x2), .inl (x3), .inl (x4), .inl (x5), .inl (x6), .inl (0)]) (st' := [.inl (x5), .inl (x3)]) (M1 := M) rfl ?_
  refine Ev.ifF fd_e164 rfl g (decide_eq_false (not_not_intro h)) ?_
  exact k
theorem r164_50 {X : fx_Sc} {M M' : fx_M} {r : Option fx_V} {x1 x2 x3 x4 x5 x6 x7 s0 : Int} (k : Ev X 164 4 [fx_f 56, .inl (x1), .inl (x2), .inl ((s0 + 0)), .inl ((x4 + 1)), .inl (x5), .inl (x6), .inl (x7)] [] M r M') : Ev X 164 50 [fx_f 56, .inl (x1), .inl (x2), .inl (x3), .inl (x4), .inl (x5), .inl (x6), .inl (x7)] [.inl (s0)] M r M' := by
  refine Ev.run 6 fd_e164 (i' := 4) (ls' := [fx_f 56, .inl (x1), .inl (x2), .inl ((s0 + 0)), .inl ((x4 + 1)), .inl (x5), .inl (x6), .inl (x7)]) (st' := []) (M1 := M) rfl ?_
  exact k
theorem r164_52T {X : fx_Sc} {M M' : fx_M} {r : Option fx_V} {x1 x2 x3 x4 x5 x6 x7 s0 : Int} (g : (-2147483648 ≤ x2 ∧ x2 < 2147483648)) (h : x2 ≠ 0) (k : Ev X 164 58 [fx_f 56, .inl (x1), .inl (x2), .inl (x3), .inl (x4), .inl (x5), .inl (x6), .inl (x7)] [.inl (s0)] M r M') : Ev X 164 52 [fx_f 56, .inl (x1), .inl (x2), .inl (x3), .inl (x4), .inl (x5), .inl (x6), .inl (x7)] [.inl (s0)] M r M' := by
  refine Ev.run 1 fd_e164 (i' := 53) (ls' := [fx_f 56, .inl (x1), .inl (x2), .inl (x3), .inl (x4), .inl (x5), .inl (x6), .inl (x7)]) (st' := [.inl (x2), .inl (s0)]) (M1 := M) rfl ?_
  refine Ev.ifT fd_e164 rfl g (decide_eq_true h) ?_
  exact k
theorem r164_52F {X : fx_Sc} {M M' : fx_M} {r : Option fx_V} {x1 x2 x3 x4 x5 x6 x7 s0 : Int} (g : (-2147483648 ≤ x2 ∧ x2 < 2147483648)) (h : x2 = 0) (k : Ev X 164 54 [fx_f 56, .inl (x1), .inl (x2), .inl (x3), .inl (x4), .inl (x5), .inl (x6), .inl (x7)] [.inl (s0)] M r M') : Ev X 164 52 [fx_f 56, .inl (x1), .inl (x2), .inl (x3), .inl (x4), .inl (x5), .inl (x6), .inl (x7)] [.inl (s0)] M r M' := by
  refine Ev.run 1 fd_e164 (i' := 53) (ls' := [fx_f 56, .inl (x1), .inl (x2), .inl (x3), .inl (x4), .inl (x5), .inl (x6), .inl (x7)]) (st' := [.inl (x2), .inl (s0)]) (M1 := M) rfl ?_
  refine Ev.ifF fd_e164 rfl g (decide_eq_false (not_not_intro h)) ?_
  exact k
theorem r164_54 {X : fx_Sc} {M M' : fx_M} {r : Option fx_V} {x1 x2 x3 x4 x5 x6 x7 s0 : Int} (k : Ev X 164 4 [fx_f 56, .inl (x1), .inl (x2), .inl ((s0 + (fx_shl 1 x4))), .inl ((x4 + 1)), .inl (x5), .inl (x6), .inl (x7)] [] M r M') : Ev X 164 54 [fx_f 56, .inl (x1), .inl (x2), .inl (x3), .inl (x4), .inl (x5), .inl (x6), .inl (x7)] [.inl (s0)] M r M' := by
  refine Ev.run 8 fd_e164 (i' := 4) (ls' := [fx_f 56, .inl (x1), .inl (x2), .inl ((s0 + (fx_shl 1 x4))), .inl ((x4 + 1)), .inl (x5), .inl (x6), .inl (x7)]) (st' := []) (M1 := M) rfl ?_
  exact k
theorem r164_58T {X : fx_Sc} {M M' : fx_M} {r : Option fx_V} {x1 x2 x3 x4 x5 x6 x7 s0 : Int} (g : (-2147483648 ≤ x2 ∧ x2 < 2147483648)) (h : x2 ≠ 1) (k : Ev X 164 65 [fx_f 56, .inl (x1), .inl (x2), .inl (x3), .inl (x4), .inl (x5), .inl (x6), .inl (x7)] [.inl (s0)] M r M') : Ev X 164 58 [fx_f 56, .inl (x1), .inl (x2), .inl (x3), .inl (x4), .inl (x5), .inl (x6), .inl (x7)] [.inl (s0)] M r M' := by
  refine Ev.run 2 fd_e164 (i' := 60) (ls' := [fx_f 56, .inl (x1), .inl (x2), .inl (x3), .inl (x4), .inl (x5), .inl (x6), .inl (x7)]) (st' := [.inl (1), .inl (x2), .inl (s0)]) (M1 := M) rfl ?_
  refine Ev.icT fd_e164 rfl g (by decide) (decide_eq_true h) ?_
  exact k
theorem r164_58F {X : fx_Sc} {M M' : fx_M} {r : Option fx_V} {x1 x2 x3 x4 x5 x6 x7 s0 : Int} (g : (-2147483648 ≤ x2 ∧ x2 < 2147483648)) (h : x2 = 1) (k : Ev X 164 61 [fx_f 56, .inl (x1), .inl (x2), .inl (x3), .inl (x4), .inl (x5), .inl (x6), .inl (x7)] [.inl (s0)] M r M') : Ev X 164 58 [fx_f 56, .inl (x1), .inl (x2), .inl (x3), .inl (x4), .inl (x5), .inl (x6), .inl (x7)] [.inl (s0)] M r M' := by
  refine Ev.run 2 fd_e164 (i' := 60) (ls' := [fx_f 56, .inl (x1), .inl (x2), .inl (x3), .inl (x4), .inl (x5), .inl (x6), .inl (x7)]) (st' := [.inl (1), .inl (x2), .inl (s0)]) (M1 := M) rfl ?_
  refine Ev.icF fd_e164 rfl g (by decide) (decide_eq_false (not_not_intro h)) ?_
  exact k
theorem r164_61 {X : fx_Sc} {M M' : fx_M} {r : Option fx_V} {x1 x2 x3 x4 x5 x6 x7 s0 z : Int} {M1 : fx_M} (hc : Ev X 121 0 [fx_f 56, .inl (x4), fx_u, fx_u] [] M (some (.inl z)) M1) (k : Ev X 164 64 [fx_f 56, .inl (x1), .inl (x2), .inl (x3), .inl (x4), .inl (x5), .inl (x6), .inl (x7)] [.inl (z), .inl (s0)] M1 r M') : Ev X 164 61 [fx_f 56, .inl (x1), .inl (x2), .inl (x3), .inl (x4), .inl (x5), .inl (x6), .inl (x7)] [.inl (s0)] M r M' := by
  refine Ev.run 2 fd_e164 (i' := 63) (ls' := [fx_f 56, .inl (x1), .inl (x2), .inl (x3), .inl (x4), .inl (x5), .inl (x6), .inl (x7)]) (st' := [.inl (x4), fx_f 56, .inl (s0)]) (M1 := M) rfl ?_
  refine Ev.callV (vs := [fx_f 56, .inl (x4)]) (rest := [.inl (s0)]) (r1 := (some (.inl z))) fd_e164 rfl rfl rfl (Nat.le_of_ble_eq_true rfl) (Nat.le_of_ble_eq_true rfl) rfl hc ?_
  exact k
theorem r164_64 {X : fx_Sc} {M M' : fx_M} {r : Option fx_V} {x1 x2 x3 x4 x5 x6 x7 s0 s1 : Int} (k : Ev X 164 4 [fx_f 56, .inl (x1), .inl (x2), .inl ((s0 + s1)), .inl ((x4 + 1)), .inl (x5), .inl (x6), .inl (x7)] [] M r M') : Ev X 164 64 [fx_f 56, .inl (x1), .inl (x2), .inl (x3), .inl (x4), .inl (x5), .inl (x6), .inl (x7)] [.inl (s1), .inl (s0)] M r M' := by
  refine Ev.run 5 fd_e164 (i' := 4) (ls' := [fx_f 56, .inl (x1), .inl (x2), .inl ((s0 + s1)), .inl ((x4 + 1)), .inl (x5), .inl (x6), .inl (x7)]) (st' := []) (M1 := M) rfl ?_
  exact k
theorem r164_65T {X : fx_Sc} {M M' : fx_M} {r : Option fx_V} {x1 x2 x3 x4 x5 x6 x7 s0 : Int} (g : (-2147483648 ≤ x2 ∧ x2 < 2147483648)) (h : x2 ≠ 2) (k : Ev X 164 72 [fx_f 56, .inl (x1), .inl (x2), .inl (x3), .inl (x4), .inl (x5), .inl (x6), .inl (x7)] [.inl (s0)] M r M') : Ev X 164 65 [fx_f 56, .inl (x1), .inl (x2), .inl (x3), .inl (x4), .inl (x5), .inl (x6), .inl (x7)] [.inl (s0)] M r M' := by
  refine Ev.run 2 fd_e164 (i' := 67) (ls' := [fx_f 56, .inl (x1), .inl (x2), .inl (x3), .inl (x4), .inl (x5), .inl (x6), .inl (x7)]) (st' := [.inl (2), .inl (x2), .inl (s0)]) (M1 := M) rfl ?_
  refine Ev.icT fd_e164 rfl g (by decide) (decide_eq_true h) ?_
  exact k
theorem r164_65F {X : fx_Sc} {M M' : fx_M} {r : Option fx_V} {x1 x2 x3 x4 x5 x6 x7 s0 : Int} (g : (-2147483648 ≤ x2 ∧ x2 < 2147483648)) (h : x2 = 2) (k : Ev X 164 68 [fx_f 56, .inl (x1), .inl (x2), .inl (x3), .inl (x4), .inl (x5), .inl (x6), .inl (x7)] [.inl (s0)] M r M') : Ev X 164 65 [fx_f 56, .inl (x1), .inl (x2), .inl (x3), .inl (x4), .inl (x5), .inl (x6), .inl (x7)] [.inl (s0)] M r M' := by
  refine Ev.run 2 fd_e164 (i' := 67) (ls' := [fx_f 56, .inl (x1), .inl (x2), .inl (x3), .inl (x4), .inl (x5), .inl (x6), .inl (x7)]) (st' := [.inl (2), .inl (x2), .inl (s0)]) (M1 := M) rfl ?_
  refine Ev.icF fd_e164 rfl g (by decide) (decide_eq_false (not_not_intro h)) ?_
  exact k
theorem r164_68 {X : fx_Sc} {M M' : fx_M} {r : Option fx_V} {x1 x2 x3 x4 x5 x6 x7 s0 : Int} (k : Ev X 164 4 [fx_f 56, .inl (x1), .inl (x2), .inl ((s0 + (x7 + x6))), .inl ((x4 + 1)), .inl (x5), .inl (x6), .inl (x7)] [] M r M') : Ev X 164 68 [fx_f 56, .inl (x1), .inl (x2), .inl (x3), .inl (x4), .inl (x5), .inl (x6), .inl (x7)] [.inl (s0)] M r M' := by
  refine Ev.run 8 fd_e164 (i' := 4) (ls' := [fx_f 56, .inl (x1), .inl (x2), .inl ((s0 + (x7 + x6))), .inl ((x4 + 1)), .inl (x5), .inl (x6), .inl (x7)]) (st' := []) (M1 := M) rfl ?_
  exact k
theorem r164_72 {X : fx_Sc} {M M' : fx_M} {r : Option fx_V} {x1 x2 x3 x4 x5 x6 x7 s0 : Int} (k : Ev X 164 4 [fx_f 56, .inl (x1), .inl (x2), .inl ((s0 + x6)), .inl ((x4 + 1)), .inl (x5), .inl (x6), .inl (x7)] [] M r M') : Ev X 164 72 [fx_f 56, .inl (x1), .inl (x2), .inl (x3), .inl (x4), .inl (x5), .inl (x6), .inl (x7)] [.inl (s0)] M r M' := by
  refine Ev.run 5 fd_e164 (i' := 4) (ls' := [fx_f 56, .inl (x1), .inl (x2), .inl ((s0 + x6)), .inl ((x4 + 1)), .inl (x5), .inl (x6), .inl (x7)]) (st' := []) (M1 := M) rfl ?_
  exact k
theorem r164_77 {X : fx_Sc} {M : fx_M} {x1 x2 x3 x4 : Int} {v5 v6 v7 : fx_V} : Ev X 164 77 [fx_f 56, .inl (x1), .inl (x2), .inl (x3), .inl (x4), v5, v6, v7] [] M (some (.inl (x3))) M := by
  refine Ev.run 1 fd_e164 (i' := 78) (ls' := [fx_f 56, .inl (x1), .inl (x2), .inl (x3), .inl (x4), v5, v6, v7]) (st' := [.inl (x3)]) (M1 := M) rfl ?_
  exact Ev.ret1 fd_e164 rfl rfl
-- 165: FoldedStripsModel.bits(I)I
theorem fd_e165 : fd_C 165 = fd_c165 := rfl
theorem r165_0 {X : fx_Sc} {M M' : fx_M} {r : Option fx_V} {x0 : Int} (k : Ev X 165 4 [.inl (x0), .inl (0), .inl (0)] [] M r M') : Ev X 165 0 [.inl (x0), fx_u, fx_u] [] M r M' := by
  refine Ev.run 4 fd_e165 (i' := 4) (ls' := [.inl (x0), .inl (0), .inl (0)]) (st' := []) (M1 := M) rfl ?_
  exact k
theorem r165_4T {X : fx_Sc} {M M' : fx_M} {r : Option fx_V} {x0 x1 x2 : Int} (g : (-2147483648 ≤ x2 ∧ x2 < 2147483648)) (h : 12 ≤ x2) (k : Ev X 165 17 [.inl (x0), .inl (x1), .inl (x2)] [] M r M') : Ev X 165 4 [.inl (x0), .inl (x1), .inl (x2)] [] M r M' := by
  refine Ev.run 2 fd_e165 (i' := 6) (ls' := [.inl (x0), .inl (x1), .inl (x2)]) (st' := [.inl (12), .inl (x2)]) (M1 := M) rfl ?_
  refine Ev.icT fd_e165 rfl g (by decide) (decide_eq_true h) ?_
  exact k
theorem r165_4F {X : fx_Sc} {M M' : fx_M} {r : Option fx_V} {x0 x1 x2 : Int} (g : (-2147483648 ≤ x2 ∧ x2 < 2147483648)) (h : x2 < 12) (k : Ev X 165 7 [.inl (x0), .inl (x1), .inl (x2)] [] M r M') : Ev X 165 4 [.inl (x0), .inl (x1), .inl (x2)] [] M r M' := by
  refine Ev.run 2 fd_e165 (i' := 6) (ls' := [.inl (x0), .inl (x1), .inl (x2)]) (st' := [.inl (12), .inl (x2)]) (M1 := M) rfl ?_
  refine Ev.icF fd_e165 rfl g (by decide) (decide_eq_false (Int.not_le.mpr h)) ?_
  exact k
theorem r165_7 {X : fx_Sc} {M M' : fx_M} {r : Option fx_V} {x0 x1 x2 : Int} (k : Ev X 165 4 [.inl (x0), .inl ((x1 + (fx_and (fx_shr x0 x2) 1))), .inl ((x2 + 1))] [] M r M') : Ev X 165 7 [.inl (x0), .inl (x1), .inl (x2)] [] M r M' := by
  refine Ev.run 10 fd_e165 (i' := 4) (ls' := [.inl (x0), .inl ((x1 + (fx_and (fx_shr x0 x2) 1))), .inl ((x2 + 1))]) (st' := []) (M1 := M) rfl ?_
  exact k
theorem r165_17 {X : fx_Sc} {M : fx_M} {x0 x1 x2 : Int} : Ev X 165 17 [.inl (x0), .inl (x1), .inl (x2)] [] M (some (.inl (x1))) M := by
  refine Ev.run 1 fd_e165 (i' := 18) (ls' := [.inl (x0), .inl (x1), .inl (x2)]) (st' := [.inl (x1)]) (M1 := M) rfl ?_
  exact Ev.ret1 fd_e165 rfl rfl
-- 166: FoldedStripsModel.line(II)I
theorem fd_e166 : fd_C 166 = fd_c166 := rfl
theorem r166_0 {X : fx_Sc} {M M' : fx_M} {r : Option fx_V} {x1 x2 : Int} {M1 : fx_M} (hc : Ev X 149 0 [fx_f 56, fx_u, fx_u, fx_u] [] M none M1) (k : Ev X 166 2 [fx_f 56, .inl (x1), .inl (x2)] [] M1 r M') : Ev X 166 0 [fx_f 56, .inl (x1), .inl (x2)] [] M r M' := by
  refine Ev.run 1 fd_e166 (i' := 1) (ls' := [fx_f 56, .inl (x1), .inl (x2)]) (st' := [fx_f 56]) (M1 := M) rfl ?_
  refine Ev.callV (vs := [fx_f 56]) (rest := []) (r1 := none) fd_e166 rfl rfl rfl (Nat.le_of_ble_eq_true rfl) (Nat.le_of_ble_eq_true rfl) rfl hc ?_
  exact k
theorem r166_2 {X : fx_Sc} {M M' : fx_M} {r : Option fx_V} {x1 x2 z : Int} {M1 : fx_M} (hc : Ev X 117 0 [.inl (x1), .inl (0), .inl (((M 56 14) - 1))] [] M (some (.inl z)) M1) (k : Ev X 166 9 [fx_f 56, .inl (x1), .inl (x2)] [.inl (z)] M1 r M') : Ev X 166 2 [fx_f 56, .inl (x1), .inl (x2)] [] M r M' := by
  refine Ev.run 6 fd_e166 (i' := 8) (ls' := [fx_f 56, .inl (x1), .inl (x2)]) (st' := [.inl (((M 56 14) - 1)), .inl (0), .inl (x1)]) (M1 := M) rfl ?_
  refine Ev.callS (vs := [.inl (x1), .inl (0), .inl (((M 56 14) - 1))]) (rest := []) (r1 := (some (.inl z))) fd_e166 rfl rfl rfl (Nat.le_of_ble_eq_true rfl) (Nat.le_of_ble_eq_true rfl) hc ?_
  exact k
theorem r166_9T {X : fx_Sc} {M M' : fx_M} {r : Option fx_V} {x1 x2 s0 : Int} (g : (-2147483648 ≤ s0 ∧ s0 < 2147483648)) (h : s0 ≠ 0) (k : Ev X 166 12 [fx_f 56, .inl (x1), .inl (x2)] [] M r M') : Ev X 166 9 [fx_f 56, .inl (x1), .inl (x2)] [.inl (s0)] M r M' := by
  refine Ev.ifT fd_e166 rfl g (decide_eq_true h) ?_
  exact k
theorem r166_9F {X : fx_Sc} {M M' : fx_M} {r : Option fx_V} {x1 x2 s0 : Int} (g : (-2147483648 ≤ s0 ∧ s0 < 2147483648)) (h : s0 = 0) (k : Ev X 166 10 [fx_f 56, .inl (x1), .inl (x2)] [] M r M') : Ev X 166 9 [fx_f 56, .inl (x1), .inl (x2)] [.inl (s0)] M r M' := by
  refine Ev.ifF fd_e166 rfl g (decide_eq_false (not_not_intro h)) ?_
  exact k
theorem r166_10 {X : fx_Sc} {M : fx_M} {x1 x2 : Int} : Ev X 166 10 [fx_f 56, .inl (x1), .inl (x2)] [] M (some (.inl ((-1)))) M := by
  refine Ev.run 1 fd_e166 (i' := 11) (ls' := [fx_f 56, .inl (x1), .inl (x2)]) (st' := [.inl ((-1))]) (M1 := M) rfl ?_
  exact Ev.ret1 fd_e166 rfl rfl
theorem r166_12D {X : fx_Sc} {M M' : fx_M} {r : Option fx_V} {x1 x2 : Int} (g : (-2147483648 ≤ x2 ∧ x2 < 2147483648)) (h : x2 < 0 ∨ 5 < x2) (k : Ev X 166 46 [fx_f 56, .inl (x1), .inl (x2)] [] M r M') : Ev X 166 12 [fx_f 56, .inl (x1), .inl (x2)] [] M r M' := by
  refine Ev.run 1 fd_e166 (i' := 13) (ls' := [fx_f 56, .inl (x1), .inl (x2)]) (st' := [.inl (x2)]) (M1 := M) rfl ?_
  refine Ev.tsO fd_e166 rfl g h ?_
  exact k
theorem r166_12c0 {X : fx_Sc} {M M' : fx_M} {r : Option fx_V} {x1 x2 : Int} (h : x2 = 0) (k : Ev X 166 14 [fx_f 56, .inl (x1), .inl (x2)] [] M r M') : Ev X 166 12 [fx_f 56, .inl (x1), .inl (x2)] [] M r M' := by
  refine Ev.run 1 fd_e166 (i' := 13) (ls' := [fx_f 56, .inl (x1), .inl (x2)]) (st' := [.inl (x2)]) (M1 := M) rfl ?_
  refine Ev.tsI (t := 14) fd_e166 rfl (by rw [h]; decide) (by rw [h]; decide) (by rw [h]; rfl) ?_
  exact k
theorem r166_12c1 {X : fx_Sc} {M M' : fx_M} {r : Option fx_V} {x1 x2 : Int} (h : x2 = 1) (k : Ev X 166 19 [fx_f 56, .inl (x1), .inl (x2)] [] M r M') : Ev X 166 12 [fx_f 56, .inl (x1), .inl (x2)] [] M r M' := by
  refine Ev.run 1 fd_e166 (i' := 13) (ls' := [fx_f 56, .inl (x1), .inl (x2)]) (st' := [.inl (x2)]) (M1 := M) rfl ?_
  refine Ev.tsI (t := 19) fd_e166 rfl (by rw [h]; decide) (by rw [h]; decide) (by rw [h]; rfl) ?_
  exact k
theorem r166_12c2 {X : fx_Sc} {M M' : fx_M} {r : Option fx_V} {x1 x2 : Int} (h : x2 = 2) (k : Ev X 166 24 [fx_f 56, .inl (x1), .inl (x2)] [] M r M') : Ev X 166 12 [fx_f 56, .inl (x1), .inl (x2)] [] M r M' := by
  refine Ev.run 1 fd_e166 (i' := 13) (ls' := [fx_f 56, .inl (x1), .inl (x2)]) (st' := [.inl (x2)]) (M1 := M) rfl ?_
  refine Ev.tsI (t := 24) fd_e166 rfl (by rw [h]; decide) (by rw [h]; decide) (by rw [h]; rfl) ?_
  exact k
theorem r166_12c3 {X : fx_Sc} {M M' : fx_M} {r : Option fx_V} {x1 x2 : Int} (h : x2 = 3) (k : Ev X 166 29 [fx_f 56, .inl (x1), .inl (x2)] [] M r M') : Ev X 166 12 [fx_f 56, .inl (x1), .inl (x2)] [] M r M' := by
  refine Ev.run 1 fd_e166 (i' := 13) (ls' := [fx_f 56, .inl (x1), .inl (x2)]) (st' := [.inl (x2)]) (M1 := M) rfl ?_
  refine Ev.tsI (t := 29) fd_e166 rfl (by rw [h]; decide) (by rw [h]; decide) (by rw [h]; rfl) ?_
  exact k
theorem r166_12c4 {X : fx_Sc} {M M' : fx_M} {r : Option fx_V} {x1 x2 : Int} (h : x2 = 4) (k : Ev X 166 36 [fx_f 56, .inl (x1), .inl (x2)] [] M r M') : Ev X 166 12 [fx_f 56, .inl (x1), .inl (x2)] [] M r M' := by
  refine Ev.run 1 fd_e166 (i' := 13) (ls' := [fx_f 56, .inl (x1), .inl (x2)]) (st' := [.inl (x2)]) (M1 := M) rfl ?_
  refine Ev.tsI (t := 36) fd_e166 rfl (by rw [h]; decide) (by rw [h]; decide) (by rw [h]; rfl) ?_
  exact k
theorem r166_12c5 {X : fx_Sc} {M M' : fx_M} {r : Option fx_V} {x1 x2 : Int} (h : x2 = 5) (k : Ev X 166 41 [fx_f 56, .inl (x1), .inl (x2)] [] M r M') : Ev X 166 12 [fx_f 56, .inl (x1), .inl (x2)] [] M r M' := by
  refine Ev.run 1 fd_e166 (i' := 13) (ls' := [fx_f 56, .inl (x1), .inl (x2)]) (st' := [.inl (x2)]) (M1 := M) rfl ?_
  refine Ev.tsI (t := 41) fd_e166 rfl (by rw [h]; decide) (by rw [h]; decide) (by rw [h]; rfl) ?_
  exact k
theorem r166_14 {X : fx_Sc} {M : fx_M} {x1 x2 : Int} (g : (0 ≤ x1 ∧ x1 < ((72 : Nat) : Int))) : Ev X 166 14 [fx_f 56, .inl (x1), .inl (x2)] [] M (some (.inl ((M 64 (x1).toNat)))) M := by
  refine Ev.run 3 fd_e166 (i' := 17) (ls' := [fx_f 56, .inl (x1), .inl (x2)]) (st' := [.inl (x1), fx_f 64]) (M1 := M) rfl ?_
  refine Ev.iald fd_e166 rfl rfl (by decide) g ?_
  exact Ev.ret1 fd_e166 rfl rfl
theorem r166_19 {X : fx_Sc} {M : fx_M} {x1 x2 : Int} (g : (0 ≤ x1 ∧ x1 < ((72 : Nat) : Int))) : Ev X 166 19 [fx_f 56, .inl (x1), .inl (x2)] [] M (some (.inl ((M 65 (x1).toNat)))) M := by
  refine Ev.run 3 fd_e166 (i' := 22) (ls' := [fx_f 56, .inl (x1), .inl (x2)]) (st' := [.inl (x1), fx_f 65]) (M1 := M) rfl ?_
  refine Ev.iald fd_e166 rfl rfl (by decide) g ?_
  exact Ev.ret1 fd_e166 rfl rfl
theorem r166_24 {X : fx_Sc} {M : fx_M} {x1 x2 : Int} (g : (0 ≤ x1 ∧ x1 < ((72 : Nat) : Int))) : Ev X 166 24 [fx_f 56, .inl (x1), .inl (x2)] [] M (some (.inl ((M 66 (x1).toNat)))) M := by
  refine Ev.run 3 fd_e166 (i' := 27) (ls' := [fx_f 56, .inl (x1), .inl (x2)]) (st' := [.inl (x1), fx_f 66]) (M1 := M) rfl ?_
  refine Ev.iald fd_e166 rfl rfl (by decide) g ?_
  exact Ev.ret1 fd_e166 rfl rfl
theorem r166_29 {X : fx_Sc} {M M' : fx_M} {r : Option fx_V} {x1 x2 z : Int} {M1 : fx_M} (g : (0 ≤ x1 ∧ x1 < ((72 : Nat) : Int))) (hc : Ev X 167 0 [fx_f 56, .inl ((M 66 (x1).toNat)), fx_u, fx_u] [] M (some (.inl z)) M1) (k : Ev X 166 35 [fx_f 56, .inl (x1), .inl (x2)] [.inl (z)] M1 r M') : Ev X 166 29 [fx_f 56, .inl (x1), .inl (x2)] [] M r M' := by
  refine Ev.run 4 fd_e166 (i' := 33) (ls' := [fx_f 56, .inl (x1), .inl (x2)]) (st' := [.inl (x1), fx_f 66, fx_f 56]) (M1 := M) rfl ?_
  refine Ev.iald fd_e166 rfl rfl (by decide) g ?_
  refine Ev.callV (vs := [fx_f 56, .inl ((M 66 (x1).toNat))]) (rest := []) (r1 := (some (.inl z))) fd_e166 rfl rfl rfl (Nat.le_of_ble_eq_true rfl) (Nat.le_of_ble_eq_true rfl) rfl hc ?_
  exact k
theorem r166_35 {X : fx_Sc} {M : fx_M} {x1 x2 s0 : Int} : Ev X 166 35 [fx_f 56, .inl (x1), .inl (x2)] [.inl (s0)] M (some (.inl (s0))) M := by
  exact Ev.ret1 fd_e166 rfl rfl
theorem r166_36 {X : fx_Sc} {M : fx_M} {x1 x2 : Int} (g : (0 ≤ x1 ∧ x1 < ((72 : Nat) : Int))) : Ev X 166 36 [fx_f 56, .inl (x1), .inl (x2)] [] M (some (.inl ((M 67 (x1).toNat)))) M := by
  refine Ev.run 3 fd_e166 (i' := 39) (ls' := [fx_f 56, .inl (x1), .inl (x2)]) (st' := [.inl (x1), fx_f 67]) (M1 := M) rfl ?_
  refine Ev.iald fd_e166 rfl rfl (by decide) g ?_
  exact Ev.ret1 fd_e166 rfl rfl
theorem r166_41 {X : fx_Sc} {M : fx_M} {x1 x2 : Int} (g : (0 ≤ x1 ∧ x1 < ((72 : Nat) : Int))) : Ev X 166 41 [fx_f 56, .inl (x1), .inl (x2)] [] M (some (.inl ((M 68 (x1).toNat)))) M := by
  refine Ev.run 3 fd_e166 (i' := 44) (ls' := [fx_f 56, .inl (x1), .inl (x2)]) (st' := [.inl (x1), fx_f 68]) (M1 := M) rfl ?_
  refine Ev.iald fd_e166 rfl rfl (by decide) g ?_
  exact Ev.ret1 fd_e166 rfl rfl
theorem r166_46 {X : fx_Sc} {M : fx_M} {x1 x2 : Int} : Ev X 166 46 [fx_f 56, .inl (x1), .inl (x2)] [] M (some (.inl ((-2)))) M := by
  refine Ev.run 1 fd_e166 (i' := 47) (ls' := [fx_f 56, .inl (x1), .inl (x2)]) (st' := [.inl ((-2))]) (M1 := M) rfl ?_
  exact Ev.ret1 fd_e166 rfl rfl
-- 167: FoldedStripsModel.handsOf(I)I
theorem fd_e167 : fd_C 167 = fd_c167 := rfl
theorem r167_0 {X : fx_Sc} {M M' : fx_M} {r : Option fx_V} {x1 : Int} (k : Ev X 167 4 [fx_f 56, .inl (x1), .inl (0), .inl (0)] [] M r M') : Ev X 167 0 [fx_f 56, .inl (x1), fx_u, fx_u] [] M r M' := by
  refine Ev.run 4 fd_e167 (i' := 4) (ls' := [fx_f 56, .inl (x1), .inl (0), .inl (0)]) (st' := []) (M1 := M) rfl ?_
  exact k
theorem r167_4T {X : fx_Sc} {M M' : fx_M} {r : Option fx_V} {x1 x2 x3 : Int} (g : (-2147483648 ≤ x3 ∧ x3 < 2147483648)) (h : 6 ≤ x3) (k : Ev X 167 29 [fx_f 56, .inl (x1), .inl (x2), .inl (x3)] [] M r M') : Ev X 167 4 [fx_f 56, .inl (x1), .inl (x2), .inl (x3)] [] M r M' := by
  refine Ev.run 2 fd_e167 (i' := 6) (ls' := [fx_f 56, .inl (x1), .inl (x2), .inl (x3)]) (st' := [.inl (6), .inl (x3)]) (M1 := M) rfl ?_
  refine Ev.icT fd_e167 rfl g (by decide) (decide_eq_true h) ?_
  exact k
theorem r167_4F {X : fx_Sc} {M M' : fx_M} {r : Option fx_V} {x1 x2 x3 : Int} (g : (-2147483648 ≤ x3 ∧ x3 < 2147483648)) (h : x3 < 6) (k : Ev X 167 7 [fx_f 56, .inl (x1), .inl (x2), .inl (x3)] [] M r M') : Ev X 167 4 [fx_f 56, .inl (x1), .inl (x2), .inl (x3)] [] M r M' := by
  refine Ev.run 2 fd_e167 (i' := 6) (ls' := [fx_f 56, .inl (x1), .inl (x2), .inl (x3)]) (st' := [.inl (6), .inl (x3)]) (M1 := M) rfl ?_
  refine Ev.icF fd_e167 rfl g (by decide) (decide_eq_false (Int.not_le.mpr h)) ?_
  exact k
theorem r167_7T {X : fx_Sc} {M M' : fx_M} {r : Option fx_V} {x1 x2 x3 : Int} (g : (-2147483648 ≤ (fx_and (fx_shr x1 x3) 1) ∧ (fx_and (fx_shr x1 x3) 1) < 2147483648)) (h : (fx_and (fx_shr x1 x3) 1) ≠ 1) (k : Ev X 167 24 [fx_f 56, .inl (x1), .inl (x2), .inl (x3)] [.inl (x2)] M r M') : Ev X 167 7 [fx_f 56, .inl (x1), .inl (x2), .inl (x3)] [] M r M' := by
  refine Ev.run 7 fd_e167 (i' := 14) (ls' := [fx_f 56, .inl (x1), .inl (x2), .inl (x3)]) (st' := [.inl (1), .inl ((fx_and (fx_shr x1 x3) 1)), .inl (x2)]) (M1 := M) rfl ?_
  refine Ev.icT fd_e167 rfl g (by decide) (decide_eq_true h) ?_
  exact k
theorem r167_7F {X : fx_Sc} {M M' : fx_M} {r : Option fx_V} {x1 x2 x3 : Int} (g : (-2147483648 ≤ (fx_and (fx_shr x1 x3) 1) ∧ (fx_and (fx_shr x1 x3) 1) < 2147483648)) (h : (fx_and (fx_shr x1 x3) 1) = 1) (k : Ev X 167 15 [fx_f 56, .inl (x1), .inl (x2), .inl (x3)] [.inl (x2)] M r M') : Ev X 167 7 [fx_f 56, .inl (x1), .inl (x2), .inl (x3)] [] M r M' := by
  refine Ev.run 7 fd_e167 (i' := 14) (ls' := [fx_f 56, .inl (x1), .inl (x2), .inl (x3)]) (st' := [.inl (1), .inl ((fx_and (fx_shr x1 x3) 1)), .inl (x2)]) (M1 := M) rfl ?_
  refine Ev.icF fd_e167 rfl g (by decide) (decide_eq_false (not_not_intro h)) ?_
  exact k
theorem r167_15 {X : fx_Sc} {M M' : fx_M} {r : Option fx_V} {x1 x2 x3 s0 : Int} (g : (0 ≤ (144 + x3) ∧ (144 + x3) < ((150 : Nat) : Int))) (k : Ev X 167 4 [fx_f 56, .inl (x1), .inl ((fx_or s0 (fx_shl 1 (M 57 ((144 + x3)).toNat)))), .inl ((x3 + 1))] [] M r M') : Ev X 167 15 [fx_f 56, .inl (x1), .inl (x2), .inl (x3)] [.inl (s0)] M r M' := by
  refine Ev.run 6 fd_e167 (i' := 21) (ls' := [fx_f 56, .inl (x1), .inl (x2), .inl (x3)]) (st' := [.inl ((144 + x3)), fx_f 57, .inl (1), .inl (s0)]) (M1 := M) rfl ?_
  refine Ev.iald fd_e167 rfl rfl (by decide) g ?_
  refine Ev.run 6 fd_e167 (i' := 4) (ls' := [fx_f 56, .inl (x1), .inl ((fx_or s0 (fx_shl 1 (M 57 ((144 + x3)).toNat)))), .inl ((x3 + 1))]) (st' := []) (M1 := M) rfl ?_
  exact k
theorem r167_24 {X : fx_Sc} {M M' : fx_M} {r : Option fx_V} {x1 x2 x3 s0 : Int} (k : Ev X 167 4 [fx_f 56, .inl (x1), .inl ((fx_or s0 0)), .inl ((x3 + 1))] [] M r M') : Ev X 167 24 [fx_f 56, .inl (x1), .inl (x2), .inl (x3)] [.inl (s0)] M r M' := by
  refine Ev.run 5 fd_e167 (i' := 4) (ls' := [fx_f 56, .inl (x1), .inl ((fx_or s0 0)), .inl ((x3 + 1))]) (st' := []) (M1 := M) rfl ?_
  exact k
theorem r167_29 {X : fx_Sc} {M : fx_M} {x1 x2 x3 : Int} : Ev X 167 29 [fx_f 56, .inl (x1), .inl (x2), .inl (x3)] [] M (some (.inl (x2))) M := by
  refine Ev.run 1 fd_e167 (i' := 30) (ls' := [fx_f 56, .inl (x1), .inl (x2), .inl (x3)]) (st' := [.inl (x2)]) (M1 := M) rfl ?_
  exact Ev.ret1 fd_e167 rfl rfl
-- 168: FoldedStripsModel.count(I)I
theorem fd_e168 : fd_C 168 = fd_c168 := rfl
theorem r168_0 {X : fx_Sc} {M M' : fx_M} {r : Option fx_V} {x1 : Int} {M1 : fx_M} (hc : Ev X 149 0 [fx_f 56, fx_u, fx_u, fx_u] [] M none M1) (k : Ev X 168 2 [fx_f 56, .inl (x1)] [] M1 r M') : Ev X 168 0 [fx_f 56, .inl (x1)] [] M r M' := by
  refine Ev.run 1 fd_e168 (i' := 1) (ls' := [fx_f 56, .inl (x1)]) (st' := [fx_f 56]) (M1 := M) rfl ?_
  refine Ev.callV (vs := [fx_f 56]) (rest := []) (r1 := none) fd_e168 rfl rfl rfl (Nat.le_of_ble_eq_true rfl) (Nat.le_of_ble_eq_true rfl) rfl hc ?_
  exact k
theorem r168_2D {X : fx_Sc} {M M' : fx_M} {r : Option fx_V} {x1 : Int} (g : (-2147483648 ≤ x1 ∧ x1 < 2147483648)) (h : x1 < 0 ∨ 10 < x1) (k : Ev X 168 30 [fx_f 56, .inl (x1)] [] M r M') : Ev X 168 2 [fx_f 56, .inl (x1)] [] M r M' := by
  refine Ev.run 1 fd_e168 (i' := 3) (ls' := [fx_f 56, .inl (x1)]) (st' := [.inl (x1)]) (M1 := M) rfl ?_
  refine Ev.tsO fd_e168 rfl g h ?_
  exact k
theorem r168_2c0 {X : fx_Sc} {M M' : fx_M} {r : Option fx_V} {x1 : Int} (h : x1 = 0) (k : Ev X 168 4 [fx_f 56, .inl (x1)] [] M r M') : Ev X 168 2 [fx_f 56, .inl (x1)] [] M r M' := by
  refine Ev.run 1 fd_e168 (i' := 3) (ls' := [fx_f 56, .inl (x1)]) (st' := [.inl (x1)]) (M1 := M) rfl ?_
  refine Ev.tsI (t := 4) fd_e168 rfl (by rw [h]; decide) (by rw [h]; decide) (by rw [h]; rfl) ?_
  exact k
theorem r168_2c1 {X : fx_Sc} {M M' : fx_M} {r : Option fx_V} {x1 : Int} (h : x1 = 1) (k : Ev X 168 8 [fx_f 56, .inl (x1)] [] M r M') : Ev X 168 2 [fx_f 56, .inl (x1)] [] M r M' := by
  refine Ev.run 1 fd_e168 (i' := 3) (ls' := [fx_f 56, .inl (x1)]) (st' := [.inl (x1)]) (M1 := M) rfl ?_
  refine Ev.tsI (t := 8) fd_e168 rfl (by rw [h]; decide) (by rw [h]; decide) (by rw [h]; rfl) ?_
  exact k
theorem r168_2c2 {X : fx_Sc} {M M' : fx_M} {r : Option fx_V} {x1 : Int} (h : x1 = 2) (k : Ev X 168 11 [fx_f 56, .inl (x1)] [] M r M') : Ev X 168 2 [fx_f 56, .inl (x1)] [] M r M' := by
  refine Ev.run 1 fd_e168 (i' := 3) (ls' := [fx_f 56, .inl (x1)]) (st' := [.inl (x1)]) (M1 := M) rfl ?_
  refine Ev.tsI (t := 11) fd_e168 rfl (by rw [h]; decide) (by rw [h]; decide) (by rw [h]; rfl) ?_
  exact k
theorem r168_2c3 {X : fx_Sc} {M M' : fx_M} {r : Option fx_V} {x1 : Int} (h : x1 = 3) (k : Ev X 168 15 [fx_f 56, .inl (x1)] [] M r M') : Ev X 168 2 [fx_f 56, .inl (x1)] [] M r M' := by
  refine Ev.run 1 fd_e168 (i' := 3) (ls' := [fx_f 56, .inl (x1)]) (st' := [.inl (x1)]) (M1 := M) rfl ?_
  refine Ev.tsI (t := 15) fd_e168 rfl (by rw [h]; decide) (by rw [h]; decide) (by rw [h]; rfl) ?_
  exact k
theorem r168_2c4 {X : fx_Sc} {M M' : fx_M} {r : Option fx_V} {x1 : Int} (h : x1 = 4) (k : Ev X 168 18 [fx_f 56, .inl (x1)] [] M r M') : Ev X 168 2 [fx_f 56, .inl (x1)] [] M r M' := by
  refine Ev.run 1 fd_e168 (i' := 3) (ls' := [fx_f 56, .inl (x1)]) (st' := [.inl (x1)]) (M1 := M) rfl ?_
  refine Ev.tsI (t := 18) fd_e168 rfl (by rw [h]; decide) (by rw [h]; decide) (by rw [h]; rfl) ?_
  exact k
theorem r168_2c5 {X : fx_Sc} {M M' : fx_M} {r : Option fx_V} {x1 : Int} (h : x1 = 5) (k : Ev X 168 4 [fx_f 56, .inl (x1)] [] M r M') : Ev X 168 2 [fx_f 56, .inl (x1)] [] M r M' := by
  refine Ev.run 1 fd_e168 (i' := 3) (ls' := [fx_f 56, .inl (x1)]) (st' := [.inl (x1)]) (M1 := M) rfl ?_
  refine Ev.tsI (t := 4) fd_e168 rfl (by rw [h]; decide) (by rw [h]; decide) (by rw [h]; rfl) ?_
  exact k
theorem r168_2c6 {X : fx_Sc} {M M' : fx_M} {r : Option fx_V} {x1 : Int} (h : x1 = 6) (k : Ev X 168 4 [fx_f 56, .inl (x1)] [] M r M') : Ev X 168 2 [fx_f 56, .inl (x1)] [] M r M' := by
  refine Ev.run 1 fd_e168 (i' := 3) (ls' := [fx_f 56, .inl (x1)]) (st' := [.inl (x1)]) (M1 := M) rfl ?_
  refine Ev.tsI (t := 4) fd_e168 rfl (by rw [h]; decide) (by rw [h]; decide) (by rw [h]; rfl) ?_
  exact k
theorem r168_2c7 {X : fx_Sc} {M M' : fx_M} {r : Option fx_V} {x1 : Int} (h : x1 = 7) (k : Ev X 168 11 [fx_f 56, .inl (x1)] [] M r M') : Ev X 168 2 [fx_f 56, .inl (x1)] [] M r M' := by
  refine Ev.run 1 fd_e168 (i' := 3) (ls' := [fx_f 56, .inl (x1)]) (st' := [.inl (x1)]) (M1 := M) rfl ?_
  refine Ev.tsI (t := 11) fd_e168 rfl (by rw [h]; decide) (by rw [h]; decide) (by rw [h]; rfl) ?_
  exact k
theorem r168_2c8 {X : fx_Sc} {M M' : fx_M} {r : Option fx_V} {x1 : Int} (h : x1 = 8) (k : Ev X 168 11 [fx_f 56, .inl (x1)] [] M r M') : Ev X 168 2 [fx_f 56, .inl (x1)] [] M r M' := by
  refine Ev.run 1 fd_e168 (i' := 3) (ls' := [fx_f 56, .inl (x1)]) (st' := [.inl (x1)]) (M1 := M) rfl ?_
  refine Ev.tsI (t := 11) fd_e168 rfl (by rw [h]; decide) (by rw [h]; decide) (by rw [h]; rfl) ?_
  exact k
theorem r168_2c9 {X : fx_Sc} {M M' : fx_M} {r : Option fx_V} {x1 : Int} (h : x1 = 9) (k : Ev X 168 24 [fx_f 56, .inl (x1)] [] M r M') : Ev X 168 2 [fx_f 56, .inl (x1)] [] M r M' := by
  refine Ev.run 1 fd_e168 (i' := 3) (ls' := [fx_f 56, .inl (x1)]) (st' := [.inl (x1)]) (M1 := M) rfl ?_
  refine Ev.tsI (t := 24) fd_e168 rfl (by rw [h]; decide) (by rw [h]; decide) (by rw [h]; rfl) ?_
  exact k
theorem r168_2c10 {X : fx_Sc} {M M' : fx_M} {r : Option fx_V} {x1 : Int} (h : x1 = 10) (k : Ev X 168 27 [fx_f 56, .inl (x1)] [] M r M') : Ev X 168 2 [fx_f 56, .inl (x1)] [] M r M' := by
  refine Ev.run 1 fd_e168 (i' := 3) (ls' := [fx_f 56, .inl (x1)]) (st' := [.inl (x1)]) (M1 := M) rfl ?_
  refine Ev.tsI (t := 27) fd_e168 rfl (by rw [h]; decide) (by rw [h]; decide) (by rw [h]; rfl) ?_
  exact k
theorem r168_4 {X : fx_Sc} {M M' : fx_M} {r : Option fx_V} {x1 z : Int} {M1 : fx_M} (hc : Ev X 169 0 [fx_f 56, .inl (x1), fx_u, fx_u, fx_u] [] M (some (.inl z)) M1) (k : Ev X 168 7 [fx_f 56, .inl (x1)] [.inl (z)] M1 r M') : Ev X 168 4 [fx_f 56, .inl (x1)] [] M r M' := by
  refine Ev.run 2 fd_e168 (i' := 6) (ls' := [fx_f 56, .inl (x1)]) (st' := [.inl (x1), fx_f 56]) (M1 := M) rfl ?_
  refine Ev.callV (vs := [fx_f 56, .inl (x1)]) (rest := []) (r1 := (some (.inl z))) fd_e168 rfl rfl rfl (Nat.le_of_ble_eq_true rfl) (Nat.le_of_ble_eq_true rfl) rfl hc ?_
  exact k
theorem r168_7 {X : fx_Sc} {M : fx_M} {x1 s0 : Int} : Ev X 168 7 [fx_f 56, .inl (x1)] [.inl (s0)] M (some (.inl (s0))) M := by
  exact Ev.ret1 fd_e168 rfl rfl
theorem r168_8 {X : fx_Sc} {M : fx_M} {x1 : Int} : Ev X 168 8 [fx_f 56, .inl (x1)] [] M (some (.inl ((M 56 14)))) M := by
  refine Ev.run 2 fd_e168 (i' := 10) (ls' := [fx_f 56, .inl (x1)]) (st' := [.inl ((M 56 14))]) (M1 := M) rfl ?_
  exact Ev.ret1 fd_e168 rfl rfl
theorem r168_11 {X : fx_Sc} {M M' : fx_M} {r : Option fx_V} {x1 z : Int} {M1 : fx_M} (hc : Ev X 170 0 [fx_f 56, .inl (x1), fx_u, fx_u, fx_u, fx_u] [] M (some (.inl z)) M1) (k : Ev X 168 14 [fx_f 56, .inl (x1)] [.inl (z)] M1 r M') : Ev X 168 11 [fx_f 56, .inl (x1)] [] M r M' := by
  refine Ev.run 2 fd_e168 (i' := 13) (ls' := [fx_f 56, .inl (x1)]) (st' := [.inl (x1), fx_f 56]) (M1 := M) rfl ?_
  refine Ev.callV (vs := [fx_f 56, .inl (x1)]) (rest := []) (r1 := (some (.inl z))) fd_e168 rfl rfl rfl (Nat.le_of_ble_eq_true rfl) (Nat.le_of_ble_eq_true rfl) rfl hc ?_
  exact k
theorem r168_14 {X : fx_Sc} {M : fx_M} {x1 s0 : Int} : Ev X 168 14 [fx_f 56, .inl (x1)] [.inl (s0)] M (some (.inl (s0))) M := by
  exact Ev.ret1 fd_e168 rfl rfl
theorem r168_15 {X : fx_Sc} {M M' : fx_M} {r : Option fx_V} {x1 z : Int} {M1 : fx_M} (hc : Ev X 129 0 [fx_f 56] [] M (some (.inl z)) M1) (k : Ev X 168 17 [fx_f 56, .inl (x1)] [.inl (z)] M1 r M') : Ev X 168 15 [fx_f 56, .inl (x1)] [] M r M' := by
  refine Ev.run 1 fd_e168 (i' := 16) (ls' := [fx_f 56, .inl (x1)]) (st' := [fx_f 56]) (M1 := M) rfl ?_
  refine Ev.callV (vs := [fx_f 56]) (rest := []) (r1 := (some (.inl z))) fd_e168 rfl rfl rfl (Nat.le_of_ble_eq_true rfl) (Nat.le_of_ble_eq_true rfl) rfl hc ?_
  exact k
theorem r168_17 {X : fx_Sc} {M : fx_M} {x1 s0 : Int} : Ev X 168 17 [fx_f 56, .inl (x1)] [.inl (s0)] M (some (.inl (s0))) M := by
  exact Ev.ret1 fd_e168 rfl rfl
theorem r168_18 {X : fx_Sc} {M M' : fx_M} {r : Option fx_V} {x1 z : Int} {M1 : fx_M} (hc : Ev X 130 0 [fx_f 56, .inl (0), .inl (5), .inl (3), fx_u, fx_u] [] M (some (.inl z)) M1) (k : Ev X 168 23 [fx_f 56, .inl (x1)] [.inl (z)] M1 r M') : Ev X 168 18 [fx_f 56, .inl (x1)] [] M r M' := by
  refine Ev.run 4 fd_e168 (i' := 22) (ls' := [fx_f 56, .inl (x1)]) (st' := [.inl (3), .inl (5), .inl (0), fx_f 56]) (M1 := M) rfl ?_
  refine Ev.callV (vs := [fx_f 56, .inl (0), .inl (5), .inl (3)]) (rest := []) (r1 := (some (.inl z))) fd_e168 rfl rfl rfl (Nat.le_of_ble_eq_true rfl) (Nat.le_of_ble_eq_true rfl) rfl hc ?_
  exact k
theorem r168_23 {X : fx_Sc} {M : fx_M} {x1 s0 : Int} : Ev X 168 23 [fx_f 56, .inl (x1)] [.inl (s0)] M (some (.inl (s0))) M := by
  exact Ev.ret1 fd_e168 rfl rfl
theorem r168_24 {X : fx_Sc} {M : fx_M} {x1 : Int} : Ev X 168 24 [fx_f 56, .inl (x1)] [] M (some (.inl ((M 56 15)))) M := by
  refine Ev.run 2 fd_e168 (i' := 26) (ls' := [fx_f 56, .inl (x1)]) (st' := [.inl ((M 56 15))]) (M1 := M) rfl ?_
  exact Ev.ret1 fd_e168 rfl rfl
theorem r168_27 {X : fx_Sc} {M : fx_M} {x1 : Int} : Ev X 168 27 [fx_f 56, .inl (x1)] [] M (some (.inl ((M 56 16)))) M := by
  refine Ev.run 2 fd_e168 (i' := 29) (ls' := [fx_f 56, .inl (x1)]) (st' := [.inl ((M 56 16))]) (M1 := M) rfl ?_
  exact Ev.ret1 fd_e168 rfl rfl
theorem r168_30 {X : fx_Sc} {M : fx_M} {x1 : Int} : Ev X 168 30 [fx_f 56, .inl (x1)] [] M (some (.inl ((-2)))) M := by
  refine Ev.run 1 fd_e168 (i' := 31) (ls' := [fx_f 56, .inl (x1)]) (st' := [.inl ((-2))]) (M1 := M) rfl ?_
  exact Ev.ret1 fd_e168 rfl rfl
-- 169: FoldedStripsModel.ofPanels(I)I
theorem fd_e169 : fd_C 169 = fd_c169 := rfl
theorem r169_0 {X : fx_Sc} {M M' : fx_M} {r : Option fx_V} {x1 : Int} (k : Ev X 169 4 [fx_f 56, .inl (x1), .inl (0), .inl (0), fx_u] [] M r M') : Ev X 169 0 [fx_f 56, .inl (x1), fx_u, fx_u, fx_u] [] M r M' := by
  refine Ev.run 4 fd_e169 (i' := 4) (ls' := [fx_f 56, .inl (x1), .inl (0), .inl (0), fx_u]) (st' := []) (M1 := M) rfl ?_
  exact k
theorem r169_4T {X : fx_Sc} {M M' : fx_M} {r : Option fx_V} {x1 x2 x3 : Int} {v4 : fx_V} (g : (-2147483648 ≤ x3 ∧ x3 < 2147483648)) (h : 6 ≤ x3) (k : Ev X 169 46 [fx_f 56, .inl (x1), .inl (x2), .inl (x3), v4] [] M r M') : Ev X 169 4 [fx_f 56, .inl (x1), .inl (x2), .inl (x3), v4] [] M r M' := by
  refine Ev.run 2 fd_e169 (i' := 6) (ls' := [fx_f 56, .inl (x1), .inl (x2), .inl (x3), v4]) (st' := [.inl (6), .inl (x3)]) (M1 := M) rfl ?_
  refine Ev.icT fd_e169 rfl g (by decide) (decide_eq_true h) ?_
  exact k
theorem r169_4F {X : fx_Sc} {M M' : fx_M} {r : Option fx_V} {x1 x2 x3 : Int} {v4 : fx_V} (g : (-2147483648 ≤ x3 ∧ x3 < 2147483648)) (h : x3 < 6) (k : Ev X 169 7 [fx_f 56, .inl (x1), .inl (x2), .inl (x3), v4] [] M r M') : Ev X 169 4 [fx_f 56, .inl (x1), .inl (x2), .inl (x3), v4] [] M r M' := by
  refine Ev.run 2 fd_e169 (i' := 6) (ls' := [fx_f 56, .inl (x1), .inl (x2), .inl (x3), v4]) (st' := [.inl (6), .inl (x3)]) (M1 := M) rfl ?_
  refine Ev.icF fd_e169 rfl g (by decide) (decide_eq_false (Int.not_le.mpr h)) ?_
  exact k
theorem r169_7T {X : fx_Sc} {M M' : fx_M} {r : Option fx_V} {x1 x2 x3 : Int} {v4 : fx_V} (g : (-2147483648 ≤ x3 ∧ x3 < 2147483648)) (h : x3 ≠ 0) (k : Ev X 169 11 [fx_f 56, .inl (x1), .inl (x2), .inl (x3), v4] [] M r M') : Ev X 169 7 [fx_f 56, .inl (x1), .inl (x2), .inl (x3), v4] [] M r M' := by
  refine Ev.run 1 fd_e169 (i' := 8) (ls' := [fx_f 56, .inl (x1), .inl (x2), .inl (x3), v4]) (st' := [.inl (x3)]) (M1 := M) rfl ?_
  refine Ev.ifT fd_e169 rfl g (decide_eq_true h) ?_
  exact k
theorem r169_7F {X : fx_Sc} {M M' : fx_M} {r : Option fx_V} {x1 x2 x3 : Int} {v4 : fx_V} (g : (-2147483648 ≤ x3 ∧ x3 < 2147483648)) (h : x3 = 0) (k : Ev X 169 9 [fx_f 56, .inl (x1), .inl (x2), .inl (x3), v4] [] M r M') : Ev X 169 7 [fx_f 56, .inl (x1), .inl (x2), .inl (x3), v4] [] M r M' := by
  refine Ev.run 1 fd_e169 (i' := 8) (ls' := [fx_f 56, .inl (x1), .inl (x2), .inl (x3), v4]) (st' := [.inl (x3)]) (M1 := M) rfl ?_
  refine Ev.ifF fd_e169 rfl g (decide_eq_false (not_not_intro h)) ?_
  exact k
theorem r169_9T {X : fx_Sc} {M M' : fx_M} {r : Option fx_V} {x1 x2 x3 : Int} {v4 : fx_V} (g : (-2147483648 ≤ x1 ∧ x1 < 2147483648)) (h : x1 ≠ 0) (k : Ev X 169 34 [fx_f 56, .inl (x1), .inl (x2), .inl (x3), .inl (0)] [.inl (x2)] M r M') : Ev X 169 9 [fx_f 56, .inl (x1), .inl (x2), .inl (x3), v4] [] M r M' := by
  refine Ev.run 5 fd_e169 (i' := 29) (ls' := [fx_f 56, .inl (x1), .inl (x2), .inl (x3), .inl (0)]) (st' := [.inl (x1), .inl (x2)]) (M1 := M) rfl ?_
  refine Ev.ifT fd_e169 rfl g (decide_eq_true h) ?_
  exact k
theorem r169_9F {X : fx_Sc} {M M' : fx_M} {r : Option fx_V} {x1 x2 x3 : Int} {v4 : fx_V} (g : (-2147483648 ≤ x1 ∧ x1 < 2147483648)) (h : x1 = 0) (k : Ev X 169 30 [fx_f 56, .inl (x1), .inl (x2), .inl (x3), .inl (0)] [.inl (x2)] M r M') : Ev X 169 9 [fx_f 56, .inl (x1), .inl (x2), .inl (x3), v4] [] M r M' := by
  refine Ev.run 5 fd_e169 (i' := 29) (ls' := [fx_f 56, .inl (x1), .inl (x2), .inl (x3), .inl (0)]) (st' := [.inl (x1), .inl (x2)]) (M1 := M) rfl ?_
  refine Ev.ifF fd_e169 rfl g (decide_eq_false (not_not_intro h)) ?_
  exact k
theorem r169_11 {X : fx_Sc} {M M' : fx_M} {r : Option fx_V} {x1 x2 x3 z : Int} {v4 : fx_V} {M1 : fx_M} (hc : Ev X 162 0 [fx_f 56, .inl ((x3 - 1)), .inl (0), fx_u, fx_u] [] M (some (.inl z)) M1) (k : Ev X 169 17 [fx_f 56, .inl (x1), .inl (x2), .inl (x3), v4] [.inl (z)] M1 r M') : Ev X 169 11 [fx_f 56, .inl (x1), .inl (x2), .inl (x3), v4] [] M r M' := by
  refine Ev.run 5 fd_e169 (i' := 16) (ls' := [fx_f 56, .inl (x1), .inl (x2), .inl (x3), v4]) (st' := [.inl (0), .inl ((x3 - 1)), fx_f 56]) (M1 := M) rfl ?_
  refine Ev.callV (vs := [fx_f 56, .inl ((x3 - 1)), .inl (0)]) (rest := []) (r1 := (some (.inl z))) fd_e169 rfl rfl rfl (Nat.le_of_ble_eq_true rfl) (Nat.le_of_ble_eq_true rfl) rfl hc ?_
  exact k
theorem r169_17 {X : fx_Sc} {M M' : fx_M} {r : Option fx_V} {x1 x2 x3 s0 z : Int} {v4 : fx_V} {M1 : fx_M} (hc : Ev X 165 0 [.inl (s0), fx_u, fx_u] [] M (some (.inl z)) M1) (k : Ev X 169 18 [fx_f 56, .inl (x1), .inl (x2), .inl (x3), v4] [.inl (z)] M1 r M') : Ev X 169 17 [fx_f 56, .inl (x1), .inl (x2), .inl (x3), v4] [.inl (s0)] M r M' := by
  refine Ev.callS (vs := [.inl (s0)]) (rest := []) (r1 := (some (.inl z))) fd_e169 rfl rfl rfl (Nat.le_of_ble_eq_true rfl) (Nat.le_of_ble_eq_true rfl) hc ?_
  exact k
theorem r169_18 {X : fx_Sc} {M M' : fx_M} {r : Option fx_V} {x1 x2 x3 s0 z : Int} {v4 : fx_V} {M1 : fx_M} (hc : Ev X 162 0 [fx_f 56, .inl ((x3 - 1)), .inl (1), fx_u, fx_u] [] M (some (.inl z)) M1) (k : Ev X 169 24 [fx_f 56, .inl (x1), .inl (x2), .inl (x3), v4] [.inl (z), .inl (s0)] M1 r M') : Ev X 169 18 [fx_f 56, .inl (x1), .inl (x2), .inl (x3), v4] [.inl (s0)] M r M' := by
  refine Ev.run 5 fd_e169 (i' := 23) (ls' := [fx_f 56, .inl (x1), .inl (x2), .inl (x3), v4]) (st' := [.inl (1), .inl ((x3 - 1)), fx_f 56, .inl (s0)]) (M1 := M) rfl ?_
  refine Ev.callV (vs := [fx_f 56, .inl ((x3 - 1)), .inl (1)]) (rest := [.inl (s0)]) (r1 := (some (.inl z))) fd_e169 rfl rfl rfl (Nat.le_of_ble_eq_true rfl) (Nat.le_of_ble_eq_true rfl) rfl hc ?_
  exact k
theorem r169_24 {X : fx_Sc} {M M' : fx_M} {r : Option fx_V} {x1 x2 x3 s0 s1 z : Int} {v4 : fx_V} {M1 : fx_M} (hc : Ev X 165 0 [.inl (s1), fx_u, fx_u] [] M (some (.inl z)) M1) (k : Ev X 169 25 [fx_f 56, .inl (x1), .inl (x2), .inl (x3), v4] [.inl (z), .inl (s0)] M1 r M') : Ev X 169 24 [fx_f 56, .inl (x1), .inl (x2), .inl (x3), v4] [.inl (s1), .inl (s0)] M r M' := by
  refine Ev.callS (vs := [.inl (s1)]) (rest := [.inl (s0)]) (r1 := (some (.inl z))) fd_e169 rfl rfl rfl (Nat.le_of_ble_eq_true rfl) (Nat.le_of_ble_eq_true rfl) hc ?_
  exact k
theorem r169_25T {X : fx_Sc} {M M' : fx_M} {r : Option fx_V} {x1 x2 x3 s0 s1 : Int} {v4 : fx_V} (g : (-2147483648 ≤ x1 ∧ x1 < 2147483648)) (h : x1 ≠ 0) (k : Ev X 169 34 [fx_f 56, .inl (x1), .inl (x2), .inl (x3), .inl ((s0 + s1))] [.inl (x2)] M r M') : Ev X 169 25 [fx_f 56, .inl (x1), .inl (x2), .inl (x3), v4] [.inl (s1), .inl (s0)] M r M' := by
  refine Ev.run 4 fd_e169 (i' := 29) (ls' := [fx_f 56, .inl (x1), .inl (x2), .inl (x3), .inl ((s0 + s1))]) (st' := [.inl (x1), .inl (x2)]) (M1 := M) rfl ?_
  refine Ev.ifT fd_e169 rfl g (decide_eq_true h) ?_
  exact k
theorem r169_25F {X : fx_Sc} {M M' : fx_M} {r : Option fx_V} {x1 x2 x3 s0 s1 : Int} {v4 : fx_V} (g : (-2147483648 ≤ x1 ∧ x1 < 2147483648)) (h : x1 = 0) (k : Ev X 169 30 [fx_f 56, .inl (x1), .inl (x2), .inl (x3), .inl ((s0 + s1))] [.inl (x2)] M r M') : Ev X 169 25 [fx_f 56, .inl (x1), .inl (x2), .inl (x3), v4] [.inl (s1), .inl (s0)] M r M' := by
  refine Ev.run 4 fd_e169 (i' := 29) (ls' := [fx_f 56, .inl (x1), .inl (x2), .inl (x3), .inl ((s0 + s1))]) (st' := [.inl (x1), .inl (x2)]) (M1 := M) rfl ?_
  refine Ev.ifF fd_e169 rfl g (decide_eq_false (not_not_intro h)) ?_
  exact k
theorem r169_30 {X : fx_Sc} {M M' : fx_M} {r : Option fx_V} {x1 x2 x3 x4 s0 z : Int} {M1 : fx_M} (hc : Ev X 121 0 [fx_f 56, .inl (x3), fx_u, fx_u] [] M (some (.inl z)) M1) (k : Ev X 169 33 [fx_f 56, .inl (x1), .inl (x2), .inl (x3), .inl (x4)] [.inl (z), .inl (s0)] M1 r M') : Ev X 169 30 [fx_f 56, .inl (x1), .inl (x2), .inl (x3), .inl (x4)] [.inl (s0)] M r M' := by
  refine Ev.run 2 fd_e169 (i' := 32) (ls' := [fx_f 56, .inl (x1), .inl (x2), .inl (x3), .inl (x4)]) (st' := [.inl (x3), fx_f 56, .inl (s0)]) (M1 := M) rfl ?_
  refine Ev.callV (vs := [fx_f 56, .inl (x3)]) (rest := [.inl (s0)]) (r1 := (some (.inl z))) fd_e169 rfl rfl rfl (Nat.le_of_ble_eq_true rfl) (Nat.le_of_ble_eq_true rfl) rfl hc ?_
  exact k
theorem r169_33 {X : fx_Sc} {M M' : fx_M} {r : Option fx_V} {x1 x2 x3 x4 s0 s1 : Int} (k : Ev X 169 4 [fx_f 56, .inl (x1), .inl ((s0 + s1)), .inl ((x3 + 1)), .inl (x4)] [] M r M') : Ev X 169 33 [fx_f 56, .inl (x1), .inl (x2), .inl (x3), .inl (x4)] [.inl (s1), .inl (s0)] M r M' := by
  refine Ev.run 5 fd_e169 (i' := 4) (ls' := [fx_f 56, .inl (x1), .inl ((s0 + s1)), .inl ((x3 + 1)), .inl (x4)]) (st' := []) (M1 := M) rfl ?_
  exact k
theorem r169_34T {X : fx_Sc} {M M' : fx_M} {r : Option fx_V} {x1 x2 x3 x4 s0 : Int} (g : (-2147483648 ≤ x1 ∧ x1 < 2147483648)) (h : x1 ≠ 5) (k : Ev X 169 39 [fx_f 56, .inl (x1), .inl (x2), .inl (x3), .inl (x4)] [.inl (s0)] M r M') : Ev X 169 34 [fx_f 56, .inl (x1), .inl (x2), .inl (x3), .inl (x4)] [.inl (s0)] M r M' := by
  refine Ev.run 2 fd_e169 (i' := 36) (ls' := [fx_f 56, .inl (x1), .inl (x2), .inl (x3), .inl (x4)]) (st' := [.inl (5), .inl (x1), .inl (s0)]) (M1 := M) rfl ?_
  refine Ev.icT fd_e169 rfl g (by decide) (decide_eq_true h) ?_
  exact k
theorem r169_34F {X : fx_Sc} {M M' : fx_M} {r : Option fx_V} {x1 x2 x3 x4 s0 : Int} (g : (-2147483648 ≤ x1 ∧ x1 < 2147483648)) (h : x1 = 5) (k : Ev X 169 37 [fx_f 56, .inl (x1), .inl (x2), .inl (x3), .inl (x4)] [.inl (s0)] M r M') : Ev X 169 34 [fx_f 56, .inl (x1), .inl (x2), .inl (x3), .inl (x4)] [.inl (s0)] M r M' := by
  refine Ev.run 2 fd_e169 (i' := 36) (ls' := [fx_f 56, .inl (x1), .inl (x2), .inl (x3), .inl (x4)]) (st' := [.inl (5), .inl (x1), .inl (s0)]) (M1 := M) rfl ?_
  refine Ev.icF fd_e169 rfl g (by decide) (decide_eq_false (not_not_intro h)) ?_
  exact k
theorem r169_37 {X : fx_Sc} {M M' : fx_M} {r : Option fx_V} {x1 x2 x3 x4 s0 : Int} (k : Ev X 169 4 [fx_f 56, .inl (x1), .inl ((s0 + x4)), .inl ((x3 + 1)), .inl (x4)] [] M r M') : Ev X 169 37 [fx_f 56, .inl (x1), .inl (x2), .inl (x3), .inl (x4)] [.inl (s0)] M r M' := by
  refine Ev.run 6 fd_e169 (i' := 4) (ls' := [fx_f 56, .inl (x1), .inl ((s0 + x4)), .inl ((x3 + 1)), .inl (x4)]) (st' := []) (M1 := M) rfl ?_
  exact k
theorem r169_39 {X : fx_Sc} {M M' : fx_M} {r : Option fx_V} {x1 x2 x3 x4 s0 z : Int} {M1 : fx_M} (hc : Ev X 158 0 [fx_f 56, .inl (x3), fx_u, fx_u, fx_u] [] M (some (.inl z)) M1) (k : Ev X 169 42 [fx_f 56, .inl (x1), .inl (x2), .inl (x3), .inl (x4)] [.inl (z), .inl (s0)] M1 r M') : Ev X 169 39 [fx_f 56, .inl (x1), .inl (x2), .inl (x3), .inl (x4)] [.inl (s0)] M r M' := by
  refine Ev.run 2 fd_e169 (i' := 41) (ls' := [fx_f 56, .inl (x1), .inl (x2), .inl (x3), .inl (x4)]) (st' := [.inl (x3), fx_f 56, .inl (s0)]) (M1 := M) rfl ?_
  refine Ev.callV (vs := [fx_f 56, .inl (x3)]) (rest := [.inl (s0)]) (r1 := (some (.inl z))) fd_e169 rfl rfl rfl (Nat.le_of_ble_eq_true rfl) (Nat.le_of_ble_eq_true rfl) rfl hc ?_
  exact k
theorem r169_42 {X : fx_Sc} {M M' : fx_M} {r : Option fx_V} {x1 x2 x3 x4 s0 s1 : Int} (k : Ev X 169 4 [fx_f 56, .inl (x1), .inl ((s0 + s1)), .inl ((x3 + 1)), .inl (x4)] [] M r M') : Ev X 169 42 [fx_f 56, .inl (x1), .inl (x2), .inl (x3), .inl (x4)] [.inl (s1), .inl (s0)] M r M' := by
  refine Ev.run 4 fd_e169 (i' := 4) (ls' := [fx_f 56, .inl (x1), .inl ((s0 + s1)), .inl ((x3 + 1)), .inl (x4)]) (st' := []) (M1 := M) rfl ?_
  exact k
theorem r169_46 {X : fx_Sc} {M : fx_M} {x1 x2 x3 : Int} {v4 : fx_V} : Ev X 169 46 [fx_f 56, .inl (x1), .inl (x2), .inl (x3), v4] [] M (some (.inl (x2))) M := by
  refine Ev.run 1 fd_e169 (i' := 47) (ls' := [fx_f 56, .inl (x1), .inl (x2), .inl (x3), v4]) (st' := [.inl (x2)]) (M1 := M) rfl ?_
  exact Ev.ret1 fd_e169 rfl rfl
-- 170: FoldedStripsModel.ofLines(I)I
theorem fd_e170 : fd_C 170 = fd_c170 := rfl
theorem r170_0 {X : fx_Sc} {M M' : fx_M} {r : Option fx_V} {x1 : Int} (k : Ev X 170 6 [fx_f 56, .inl (x1), .inl (0), .inl (0), .inl (0), fx_u] [] M r M') : Ev X 170 0 [fx_f 56, .inl (x1), fx_u, fx_u, fx_u, fx_u] [] M r M' := by
  refine Ev.run 6 fd_e170 (i' := 6) (ls' := [fx_f 56, .inl (x1), .inl (0), .inl (0), .inl (0), fx_u]) (st' := []) (M1 := M) rfl ?_
  exact k
theorem r170_6T {X : fx_Sc} {M M' : fx_M} {r : Option fx_V} {x1 x2 x3 x4 : Int} {v5 : fx_V} (g : (-2147483648 ≤ x4 ∧ x4 < 2147483648) ∧ (-2147483648 ≤ (M 56 14) ∧ (M 56 14) < 2147483648)) (h : (M 56 14) ≤ x4) (k : Ev X 170 62 [fx_f 56, .inl (x1), .inl (x2), .inl (x3), .inl (x4), v5] [] M r M') : Ev X 170 6 [fx_f 56, .inl (x1), .inl (x2), .inl (x3), .inl (x4), v5] [] M r M' := by
  refine Ev.run 3 fd_e170 (i' := 9) (ls' := [fx_f 56, .inl (x1), .inl (x2), .inl (x3), .inl (x4), v5]) (st' := [.inl ((M 56 14)), .inl (x4)]) (M1 := M) rfl ?_
  refine Ev.icT fd_e170 rfl g.1 g.2 (decide_eq_true h) ?_
  exact k
theorem r170_6F {X : fx_Sc} {M M' : fx_M} {r : Option fx_V} {x1 x2 x3 x4 : Int} {v5 : fx_V} (g : (-2147483648 ≤ x4 ∧ x4 < 2147483648) ∧ (-2147483648 ≤ (M 56 14) ∧ (M 56 14) < 2147483648)) (h : x4 < (M 56 14)) (k : Ev X 170 10 [fx_f 56, .inl (x1), .inl (x2), .inl (x3), .inl (x4), v5] [] M r M') : Ev X 170 6 [fx_f 56, .inl (x1), .inl (x2), .inl (x3), .inl (x4), v5] [] M r M' := by
  refine Ev.run 3 fd_e170 (i' := 9) (ls' := [fx_f 56, .inl (x1), .inl (x2), .inl (x3), .inl (x4), v5]) (st' := [.inl ((M 56 14)), .inl (x4)]) (M1 := M) rfl ?_
  refine Ev.icF fd_e170 rfl g.1 g.2 (decide_eq_false (Int.not_le.mpr h)) ?_
  exact k
theorem r170_10T {X : fx_Sc} {M M' : fx_M} {r : Option fx_V} {x1 x2 x3 x4 : Int} {v5 : fx_V} (g : (0 ≤ x4 ∧ x4 < ((72 : Nat) : Int)) ∧ (-2147483648 ≤ (M 65 (x4).toNat) ∧ (M 65 (x4).toNat) < 2147483648)) (h : (M 65 (x4).toNat) ≠ 0) (k : Ev X 170 29 [fx_f 56, .inl (x1), .inl (x2), .inl (x3), .inl (x4), v5] [] M r M') : Ev X 170 10 [fx_f 56, .inl (x1), .inl (x2), .inl (x3), .inl (x4), v5] [] M r M' := by
  refine Ev.run 3 fd_e170 (i' := 13) (ls' := [fx_f 56, .inl (x1), .inl (x2), .inl (x3), .inl (x4), v5]) (st' := [.inl (x4), fx_f 65]) (M1 := M) rfl ?_
  refine Ev.iald fd_e170 rfl rfl (by decide) g.1 ?_
  refine Ev.ifT fd_e170 rfl g.2 (decide_eq_true h) ?_
  exact k
theorem r170_10F {X : fx_Sc} {M M' : fx_M} {r : Option fx_V} {x1 x2 x3 x4 : Int} {v5 : fx_V} (g : (0 ≤ x4 ∧ x4 < ((72 : Nat) : Int)) ∧ (-2147483648 ≤ (M 65 (x4).toNat) ∧ (M 65 (x4).toNat) < 2147483648)) (h : (M 65 (x4).toNat) = 0) (k : Ev X 170 15 [fx_f 56, .inl (x1), .inl (x2), .inl (x3), .inl (x4), v5] [] M r M') : Ev X 170 10 [fx_f 56, .inl (x1), .inl (x2), .inl (x3), .inl (x4), v5] [] M r M' := by
  refine Ev.run 3 fd_e170 (i' := 13) (ls' := [fx_f 56, .inl (x1), .inl (x2), .inl (x3), .inl (x4), v5]) (st' := [.inl (x4), fx_f 65]) (M1 := M) rfl ?_
  refine Ev.iald fd_e170 rfl rfl (by decide) g.1 ?_
  refine Ev.ifF fd_e170 rfl g.2 (decide_eq_false (not_not_intro h)) ?_
  exact k
theorem r170_15T {X : fx_Sc} {M M' : fx_M} {r : Option fx_V} {x1 x2 x3 x4 : Int} {v5 : fx_V} (g : (0 ≤ x4 ∧ x4 < ((72 : Nat) : Int)) ∧ (-2147483648 ≤ (M 67 (x4).toNat) ∧ (M 67 (x4).toNat) < 2147483648)) (h : 12 ≤ (M 67 (x4).toNat)) (k : Ev X 170 29 [fx_f 56, .inl (x1), .inl (x2), .inl (x3), .inl (x4), v5] [] M r M') : Ev X 170 15 [fx_f 56, .inl (x1), .inl (x2), .inl (x3), .inl (x4), v5] [] M r M' := by
  refine Ev.run 3 fd_e170 (i' := 18) (ls' := [fx_f 56, .inl (x1), .inl (x2), .inl (x3), .inl (x4), v5]) (st' := [.inl (x4), fx_f 67]) (M1 := M) rfl ?_
  refine Ev.iald fd_e170 rfl rfl (by decide) g.1 ?_
  refine Ev.run 1 fd_e170 (i' := 20) (ls' := [fx_f 56, .inl (x1), .inl (x2), .inl (x3), .inl (x4), v5]) (st' := [.inl (12), .inl ((M 67 (x4).toNat))]) (M1 := M) rfl ?_
  refine Ev.icT fd_e170 rfl g.2 (by decide) (decide_eq_true h) ?_
  exact k
theorem r170_15F {X : fx_Sc} {M M' : fx_M} {r : Option fx_V} {x1 x2 x3 x4 : Int} {v5 : fx_V} (g : (0 ≤ x4 ∧ x4 < ((72 : Nat) : Int)) ∧ (-2147483648 ≤ (M 67 (x4).toNat) ∧ (M 67 (x4).toNat) < 2147483648)) (h : (M 67 (x4).toNat) < 12) (k : Ev X 170 21 [fx_f 56, .inl (x1), .inl (x2), .inl (x3), .inl (x4), v5] [] M r M') : Ev X 170 15 [fx_f 56, .inl (x1), .inl (x2), .inl (x3), .inl (x4), v5] [] M r M' := by
  refine Ev.run 3 fd_e170 (i' := 18) (ls' := [fx_f 56, .inl (x1), .inl (x2), .inl (x3), .inl (x4), v5]) (st' := [.inl (x4), fx_f 67]) (M1 := M) rfl ?_
  refine Ev.iald fd_e170 rfl rfl (by decide) g.1 ?_
  refine Ev.run 1 fd_e170 (i' := 20) (ls' := [fx_f 56, .inl (x1), .inl (x2), .inl (x3), .inl (x4), v5]) (st' := [.inl (12), .inl ((M 67 (x4).toNat))]) (M1 := M) rfl ?_
  refine Ev.icF fd_e170 rfl g.2 (by decide) (decide_eq_false (Int.not_le.mpr h)) ?_
  exact k
theorem r170_21T {X : fx_Sc} {M M' : fx_M} {r : Option fx_V} {x1 x2 x3 x4 : Int} {v5 : fx_V} (g : (0 ≤ x4 ∧ x4 < ((72 : Nat) : Int)) ∧ (-2147483648 ≤ (M 68 (x4).toNat) ∧ (M 68 (x4).toNat) < 2147483648)) (h : (M 68 (x4).toNat) < 132) (k : Ev X 170 29 [fx_f 56, .inl (x1), .inl (x2), .inl (x3), .inl (x4), v5] [] M r M') : Ev X 170 21 [fx_f 56, .inl (x1), .inl (x2), .inl (x3), .inl (x4), v5] [] M r M' := by
  refine Ev.run 3 fd_e170 (i' := 24) (ls' := [fx_f 56, .inl (x1), .inl (x2), .inl (x3), .inl (x4), v5]) (st' := [.inl (x4), fx_f 68]) (M1 := M) rfl ?_
  refine Ev.iald fd_e170 rfl rfl (by decide) g.1 ?_
  refine Ev.run 1 fd_e170 (i' := 26) (ls' := [fx_f 56, .inl (x1), .inl (x2), .inl (x3), .inl (x4), v5]) (st' := [.inl (132), .inl ((M 68 (x4).toNat))]) (M1 := M) rfl ?_
  refine Ev.icT fd_e170 rfl g.2 (by decide) (decide_eq_true h) ?_
  exact k
theorem r170_21F {X : fx_Sc} {M M' : fx_M} {r : Option fx_V} {x1 x2 x3 x4 : Int} {v5 : fx_V} (g : (0 ≤ x4 ∧ x4 < ((72 : Nat) : Int)) ∧ (-2147483648 ≤ (M 68 (x4).toNat) ∧ (M 68 (x4).toNat) < 2147483648)) (h : 132 ≤ (M 68 (x4).toNat)) (k : Ev X 170 27 [fx_f 56, .inl (x1), .inl (x2), .inl (x3), .inl (x4), v5] [] M r M') : Ev X 170 21 [fx_f 56, .inl (x1), .inl (x2), .inl (x3), .inl (x4), v5] [] M r M' := by
  refine Ev.run 3 fd_e170 (i' := 24) (ls' := [fx_f 56, .inl (x1), .inl (x2), .inl (x3), .inl (x4), v5]) (st' := [.inl (x4), fx_f 68]) (M1 := M) rfl ?_
  refine Ev.iald fd_e170 rfl rfl (by decide) g.1 ?_
  refine Ev.run 1 fd_e170 (i' := 26) (ls' := [fx_f 56, .inl (x1), .inl (x2), .inl (x3), .inl (x4), v5]) (st' := [.inl (132), .inl ((M 68 (x4).toNat))]) (M1 := M) rfl ?_
  refine Ev.icF fd_e170 rfl g.2 (by decide) (decide_eq_false (Int.not_lt.mpr h)) ?_
  exact k
theorem r170_27T {X : fx_Sc} {M M' : fx_M} {r : Option fx_V} {x1 x2 x3 x4 : Int} {v5 : fx_V} (g : (-2147483648 ≤ x1 ∧ x1 < 2147483648)) (h : x1 ≠ 2) (k : Ev X 170 40 [fx_f 56, .inl (x1), .inl (x2), .inl (x3), .inl (x4), .inl (1)] [.inl (x2)] M r M') : Ev X 170 27 [fx_f 56, .inl (x1), .inl (x2), .inl (x3), .inl (x4), v5] [] M r M' := by
  refine Ev.run 6 fd_e170 (i' := 34) (ls' := [fx_f 56, .inl (x1), .inl (x2), .inl (x3), .inl (x4), .inl (1)]) (st' := [.inl (2), .inl (x1), .inl (x2)]) (M1 := M) rfl ?_
  refine Ev.icT fd_e170 rfl g (by decide) (decide_eq_true h) ?_
  exact k
theorem r170_27F {X : fx_Sc} {M M' : fx_M} {r : Option fx_V} {x1 x2 x3 x4 : Int} {v5 : fx_V} (g : (-2147483648 ≤ x1 ∧ x1 < 2147483648)) (h : x1 = 2) (k : Ev X 170 35 [fx_f 56, .inl (x1), .inl (x2), .inl (x3), .inl (x4), .inl (1)] [.inl (x2)] M r M') : Ev X 170 27 [fx_f 56, .inl (x1), .inl (x2), .inl (x3), .inl (x4), v5] [] M r M' := by
  refine Ev.run 6 fd_e170 (i' := 34) (ls' := [fx_f 56, .inl (x1), .inl (x2), .inl (x3), .inl (x4), .inl (1)]) (st' := [.inl (2), .inl (x1), .inl (x2)]) (M1 := M) rfl ?_
  refine Ev.icF fd_e170 rfl g (by decide) (decide_eq_false (not_not_intro h)) ?_
  exact k
theorem r170_29T {X : fx_Sc} {M M' : fx_M} {r : Option fx_V} {x1 x2 x3 x4 : Int} {v5 : fx_V} (g : (-2147483648 ≤ x1 ∧ x1 < 2147483648)) (h : x1 ≠ 2) (k : Ev X 170 40 [fx_f 56, .inl (x1), .inl (x2), .inl (x3), .inl (x4), .inl (0)] [.inl (x2)] M r M') : Ev X 170 29 [fx_f 56, .inl (x1), .inl (x2), .inl (x3), .inl (x4), v5] [] M r M' := by
  refine Ev.run 5 fd_e170 (i' := 34) (ls' := [fx_f 56, .inl (x1), .inl (x2), .inl (x3), .inl (x4), .inl (0)]) (st' := [.inl (2), .inl (x1), .inl (x2)]) (M1 := M) rfl ?_
  refine Ev.icT fd_e170 rfl g (by decide) (decide_eq_true h) ?_
  exact k
theorem r170_29F {X : fx_Sc} {M M' : fx_M} {r : Option fx_V} {x1 x2 x3 x4 : Int} {v5 : fx_V} (g : (-2147483648 ≤ x1 ∧ x1 < 2147483648)) (h : x1 = 2) (k : Ev X 170 35 [fx_f 56, .inl (x1), .inl (x2), .inl (x3), .inl (x4), .inl (0)] [.inl (x2)] M r M') : Ev X 170 29 [fx_f 56, .inl (x1), .inl (x2), .inl (x3), .inl (x4), v5] [] M r M' := by
  refine Ev.run 5 fd_e170 (i' := 34) (ls' := [fx_f 56, .inl (x1), .inl (x2), .inl (x3), .inl (x4), .inl (0)]) (st' := [.inl (2), .inl (x1), .inl (x2)]) (M1 := M) rfl ?_
  refine Ev.icF fd_e170 rfl g (by decide) (decide_eq_false (not_not_intro h)) ?_
  exact k
theorem r170_35T {X : fx_Sc} {M M' : fx_M} {r : Option fx_V} {x1 x2 x3 x4 x5 s0 : Int} (g : (0 ≤ x4 ∧ x4 < ((72 : Nat) : Int)) ∧ (-2147483648 ≤ (M 64 (x4).toNat) ∧ (M 64 (x4).toNat) < 2147483648) ∧ (-2147483648 ≤ x3 ∧ x3 < 2147483648)) (h : (M 64 (x4).toNat) ≤ x3) (k : Ev X 170 58 [fx_f 56, .inl (x1), .inl ((s0 + (M 65 (x4).toNat))), .inl (x3), .inl (x4), .inl (x5)] [] M r M') : Ev X 170 35 [fx_f 56, .inl (x1), .inl (x2), .inl (x3), .inl (x4), .inl (x5)] [.inl (s0)] M r M' := by
  refine Ev.run 3 fd_e170 (i' := 38) (ls' := [fx_f 56, .inl (x1), .inl (x2), .inl (x3), .inl (x4), .inl (x5)]) (st' := [.inl (x4), fx_f 65, .inl (s0)]) (M1 := M) rfl ?_
  refine Ev.iald fd_e170 rfl rfl (by decide) g.1 ?_
  refine Ev.run 6 fd_e170 (i' := 50) (ls' := [fx_f 56, .inl (x1), .inl ((s0 + (M 65 (x4).toNat))), .inl (x3), .inl (x4), .inl (x5)]) (st' := [.inl (x4), fx_f 64]) (M1 := M) rfl ?_
  refine Ev.iald fd_e170 rfl rfl (by decide) g.1 ?_
  refine Ev.run 1 fd_e170 (i' := 52) (ls' := [fx_f 56, .inl (x1), .inl ((s0 + (M 65 (x4).toNat))), .inl (x3), .inl (x4), .inl (x5)]) (st' := [.inl (x3), .inl ((M 64 (x4).toNat))]) (M1 := M) rfl ?_
  refine Ev.icT fd_e170 rfl g.2.1 g.2.2 (decide_eq_true h) ?_
  exact k
theorem r170_35F {X : fx_Sc} {M M' : fx_M} {r : Option fx_V} {x1 x2 x3 x4 x5 s0 : Int} (g : (0 ≤ x4 ∧ x4 < ((72 : Nat) : Int)) ∧ (-2147483648 ≤ (M 64 (x4).toNat) ∧ (M 64 (x4).toNat) < 2147483648) ∧ (-2147483648 ≤ x3 ∧ x3 < 2147483648)) (h : x3 < (M 64 (x4).toNat)) (k : Ev X 170 53 [fx_f 56, .inl (x1), .inl ((s0 + (M 65 (x4).toNat))), .inl (x3), .inl (x4), .inl (x5)] [] M r M') : Ev X 170 35 [fx_f 56, .inl (x1), .inl (x2), .inl (x3), .inl (x4), .inl (x5)] [.inl (s0)] M r M' := by
  refine Ev.run 3 fd_e170 (i' := 38) (ls' := [fx_f 56, .inl (x1), .inl (x2), .inl (x3), .inl (x4), .inl (x5)]) (st' := [.inl (x4), fx_f 65, .inl (s0)]) (M1 := M) rfl ?_
  refine Ev.iald fd_e170 rfl rfl (by decide) g.1 ?_
  refine Ev.run 6 fd_e170 (i' := 50) (ls' := [fx_f 56, .inl (x1), .inl ((s0 + (M 65 (x4).toNat))), .inl (x3), .inl (x4), .inl (x5)]) (st' := [.inl (x4), fx_f 64]) (M1 := M) rfl ?_
  refine Ev.iald fd_e170 rfl rfl (by decide) g.1 ?_
  refine Ev.run 1 fd_e170 (i' := 52) (ls' := [fx_f 56, .inl (x1), .inl ((s0 + (M 65 (x4).toNat))), .inl (x3), .inl (x4), .inl (x5)]) (st' := [.inl (x3), .inl ((M 64 (x4).toNat))]) (M1 := M) rfl ?_
  refine Ev.icF fd_e170 rfl g.2.1 g.2.2 (decide_eq_false (Int.not_le.mpr h)) ?_
  exact k
theorem r170_40T {X : fx_Sc} {M M' : fx_M} {r : Option fx_V} {x1 x2 x3 x4 x5 s0 : Int} (g : (-2147483648 ≤ x5 ∧ x5 < 2147483648)) (h : x5 = 0) (k : Ev X 170 44 [fx_f 56, .inl (x1), .inl (x2), .inl (x3), .inl (x4), .inl (x5)] [.inl (s0)] M r M') : Ev X 170 40 [fx_f 56, .inl (x1), .inl (x2), .inl (x3), .inl (x4), .inl (x5)] [.inl (s0)] M r M' := by
  refine Ev.run 1 fd_e170 (i' := 41) (ls' := [fx_f 56, .inl (x1), .inl (x2), .inl (x3), .inl (x4), .inl (x5)]) (st' := [.inl (x5), .inl (s0)]) (M1 := M) rfl ?_
  refine Ev.ifT fd_e170 rfl g (decide_eq_true h) ?_
  exact k
theorem r170_40F {X : fx_Sc} {M M' : fx_M} {r : Option fx_V} {x1 x2 x3 x4 x5 s0 : Int} (g : (-2147483648 ≤ x5 ∧ x5 < 2147483648)) (h : x5 ≠ 0) (k : Ev X 170 42 [fx_f 56, .inl (x1), .inl (x2), .inl (x3), .inl (x4), .inl (x5)] [.inl (s0)] M r M') : Ev X 170 40 [fx_f 56, .inl (x1), .inl (x2), .inl (x3), .inl (x4), .inl (x5)] [.inl (s0)] M r M' := by
  refine Ev.run 1 fd_e170 (i' := 41) (ls' := [fx_f 56, .inl (x1), .inl (x2), .inl (x3), .inl (x4), .inl (x5)]) (st' := [.inl (x5), .inl (s0)]) (M1 := M) rfl ?_
  refine Ev.ifF fd_e170 rfl g (decide_eq_false h) ?_
  exact k
theorem r170_42T {X : fx_Sc} {M M' : fx_M} {r : Option fx_V} {x1 x2 x3 x4 x5 s0 : Int} (g : (0 ≤ x4 ∧ x4 < ((72 : Nat) : Int)) ∧ (-2147483648 ≤ (M 64 (x4).toNat) ∧ (M 64 (x4).toNat) < 2147483648) ∧ (-2147483648 ≤ x3 ∧ x3 < 2147483648)) (h : (M 64 (x4).toNat) ≤ x3) (k : Ev X 170 58 [fx_f 56, .inl (x1), .inl ((s0 + 1)), .inl (x3), .inl (x4), .inl (x5)] [] M r M') : Ev X 170 42 [fx_f 56, .inl (x1), .inl (x2), .inl (x3), .inl (x4), .inl (x5)] [.inl (s0)] M r M' := by
  refine Ev.run 7 fd_e170 (i' := 50) (ls' := [fx_f 56, .inl (x1), .inl ((s0 + 1)), .inl (x3), .inl (x4), .inl (x5)]) (st' := [.inl (x4), fx_f 64]) (M1 := M) rfl ?_
  refine Ev.iald fd_e170 rfl rfl (by decide) g.1 ?_
  refine Ev.run 1 fd_e170 (i' := 52) (ls' := [fx_f 56, .inl (x1), .inl ((s0 + 1)), .inl (x3), .inl (x4), .inl (x5)]) (st' := [.inl (x3), .inl ((M 64 (x4).toNat))]) (M1 := M) rfl ?_
  refine Ev.icT fd_e170 rfl g.2.1 g.2.2 (decide_eq_true h) ?_
  exact k
theorem r170_42F {X : fx_Sc} {M M' : fx_M} {r : Option fx_V} {x1 x2 x3 x4 x5 s0 : Int} (g : (0 ≤ x4 ∧ x4 < ((72 : Nat) : Int)) ∧ (-2147483648 ≤ (M 64 (x4).toNat) ∧ (M 64 (x4).toNat) < 2147483648) ∧ (-2147483648 ≤ x3 ∧ x3 < 2147483648)) (h : x3 < (M 64 (x4).toNat)) (k : Ev X 170 53 [fx_f 56, .inl (x1), .inl ((s0 + 1)), .inl (x3), .inl (x4), .inl (x5)] [] M r M') : Ev X 170 42 [fx_f 56, .inl (x1), .inl (x2), .inl (x3), .inl (x4), .inl (x5)] [.inl (s0)] M r M' := by
  refine Ev.run 7 fd_e170 (i' := 50) (ls' := [fx_f 56, .inl (x1), .inl ((s0 + 1)), .inl (x3), .inl (x4), .inl (x5)]) (st' := [.inl (x4), fx_f 64]) (M1 := M) rfl ?_
  refine Ev.iald fd_e170 rfl rfl (by decide) g.1 ?_
  refine Ev.run 1 fd_e170 (i' := 52) (ls' := [fx_f 56, .inl (x1), .inl ((s0 + 1)), .inl (x3), .inl (x4), .inl (x5)]) (st' := [.inl (x3), .inl ((M 64 (x4).toNat))]) (M1 := M) rfl ?_
  refine Ev.icF fd_e170 rfl g.2.1 g.2.2 (decide_eq_false (Int.not_le.mpr h)) ?_
  exact k
theorem r170_44T {X : fx_Sc} {M M' : fx_M} {r : Option fx_V} {x1 x2 x3 x4 x5 s0 : Int} (g : (0 ≤ x4 ∧ x4 < ((72 : Nat) : Int)) ∧ (-2147483648 ≤ (M 64 (x4).toNat) ∧ (M 64 (x4).toNat) < 2147483648) ∧ (-2147483648 ≤ x3 ∧ x3 < 2147483648)) (h : (M 64 (x4).toNat) ≤ x3) (k : Ev X 170 58 [fx_f 56, .inl (x1), .inl ((s0 + 0)), .inl (x3), .inl (x4), .inl (x5)] [] M r M') : Ev X 170 44 [fx_f 56, .inl (x1), .inl (x2), .inl (x3), .inl (x4), .inl (x5)] [.inl (s0)] M r M' := by
  refine Ev.run 6 fd_e170 (i' := 50) (ls' := [fx_f 56, .inl (x1), .inl ((s0 + 0)), .inl (x3), .inl (x4), .inl (x5)]) (st' := [.inl (x4), fx_f 64]) (M1 := M) rfl ?_
  refine Ev.iald fd_e170 rfl rfl (by decide) g.1 ?_
  refine Ev.run 1 fd_e170 (i' := 52) (ls' := [fx_f 56, .inl (x1), .inl ((s0 + 0)), .inl (x3), .inl (x4), .inl (x5)]) (st' := [.inl (x3), .inl ((M 64 (x4).toNat))]) (M1 := M) rfl ?_
  refine Ev.icT fd_e170 rfl g.2.1 g.2.2 (decide_eq_true h) ?_
  exact k
theorem r170_44F {X : fx_Sc} {M M' : fx_M} {r : Option fx_V} {x1 x2 x3 x4 x5 s0 : Int} (g : (0 ≤ x4 ∧ x4 < ((72 : Nat) : Int)) ∧ (-2147483648 ≤ (M 64 (x4).toNat) ∧ (M 64 (x4).toNat) < 2147483648) ∧ (-2147483648 ≤ x3 ∧ x3 < 2147483648)) (h : x3 < (M 64 (x4).toNat)) (k : Ev X 170 53 [fx_f 56, .inl (x1), .inl ((s0 + 0)), .inl (x3), .inl (x4), .inl (x5)] [] M r M') : Ev X 170 44 [fx_f 56, .inl (x1), .inl (x2), .inl (x3), .inl (x4), .inl (x5)] [.inl (s0)] M r M' := by
  refine Ev.run 6 fd_e170 (i' := 50) (ls' := [fx_f 56, .inl (x1), .inl ((s0 + 0)), .inl (x3), .inl (x4), .inl (x5)]) (st' := [.inl (x4), fx_f 64]) (M1 := M) rfl ?_
  refine Ev.iald fd_e170 rfl rfl (by decide) g.1 ?_
  refine Ev.run 1 fd_e170 (i' := 52) (ls' := [fx_f 56, .inl (x1), .inl ((s0 + 0)), .inl (x3), .inl (x4), .inl (x5)]) (st' := [.inl (x3), .inl ((M 64 (x4).toNat))]) (M1 := M) rfl ?_
  refine Ev.icF fd_e170 rfl g.2.1 g.2.2 (decide_eq_false (Int.not_le.mpr h)) ?_
  exact k
theorem r170_53 {X : fx_Sc} {M M' : fx_M} {r : Option fx_V} {x1 x2 x3 x4 x5 : Int} (g : (0 ≤ x4 ∧ x4 < ((72 : Nat) : Int))) (k : Ev X 170 6 [fx_f 56, .inl (x1), .inl (x2), .inl ((M 64 (x4).toNat)), .inl ((x4 + 1)), .inl (x5)] [] M r M') : Ev X 170 53 [fx_f 56, .inl (x1), .inl (x2), .inl (x3), .inl (x4), .inl (x5)] [] M r M' := by
  refine Ev.run 3 fd_e170 (i' := 56) (ls' := [fx_f 56, .inl (x1), .inl (x2), .inl (x3), .inl (x4), .inl (x5)]) (st' := [.inl (x4), fx_f 64]) (M1 := M) rfl ?_
  refine Ev.iald fd_e170 rfl rfl (by decide) g ?_
  refine Ev.run 4 fd_e170 (i' := 6) (ls' := [fx_f 56, .inl (x1), .inl (x2), .inl ((M 64 (x4).toNat)), .inl ((x4 + 1)), .inl (x5)]) (st' := []) (M1 := M) rfl ?_
  exact k
theorem r170_58 {X : fx_Sc} {M M' : fx_M} {r : Option fx_V} {x1 x2 x3 x4 x5 : Int} (k : Ev X 170 6 [fx_f 56, .inl (x1), .inl (x2), .inl (x3), .inl ((x4 + 1)), .inl (x5)] [] M r M') : Ev X 170 58 [fx_f 56, .inl (x1), .inl (x2), .inl (x3), .inl (x4), .inl (x5)] [] M r M' := by
  refine Ev.run 4 fd_e170 (i' := 6) (ls' := [fx_f 56, .inl (x1), .inl (x2), .inl (x3), .inl ((x4 + 1)), .inl (x5)]) (st' := []) (M1 := M) rfl ?_
  exact k
theorem r170_62T {X : fx_Sc} {M M' : fx_M} {r : Option fx_V} {x1 x2 x3 x4 : Int} {v5 : fx_V} (g : (-2147483648 ≤ x1 ∧ x1 < 2147483648)) (h : x1 ≠ 7) (k : Ev X 170 67 [fx_f 56, .inl (x1), .inl (x2), .inl (x3), .inl (x4), v5] [] M r M') : Ev X 170 62 [fx_f 56, .inl (x1), .inl (x2), .inl (x3), .inl (x4), v5] [] M r M' := by
  refine Ev.run 2 fd_e170 (i' := 64) (ls' := [fx_f 56, .inl (x1), .inl (x2), .inl (x3), .inl (x4), v5]) (st' := [.inl (7), .inl (x1)]) (M1 := M) rfl ?_
  refine Ev.icT fd_e170 rfl g (by decide) (decide_eq_true h) ?_
  exact k
theorem r170_62F {X : fx_Sc} {M M' : fx_M} {r : Option fx_V} {x1 x2 x3 x4 : Int} {v5 : fx_V} (g : (-2147483648 ≤ x1 ∧ x1 < 2147483648)) (h : x1 = 7) (k : Ev X 170 65 [fx_f 56, .inl (x1), .inl (x2), .inl (x3), .inl (x4), v5] [] M r M') : Ev X 170 62 [fx_f 56, .inl (x1), .inl (x2), .inl (x3), .inl (x4), v5] [] M r M' := by
  refine Ev.run 2 fd_e170 (i' := 64) (ls' := [fx_f 56, .inl (x1), .inl (x2), .inl (x3), .inl (x4), v5]) (st' := [.inl (7), .inl (x1)]) (M1 := M) rfl ?_
  refine Ev.icF fd_e170 rfl g (by decide) (decide_eq_false (not_not_intro h)) ?_
  exact k
theorem r170_65 {X : fx_Sc} {M : fx_M} {x1 x2 x3 x4 : Int} {v5 : fx_V} : Ev X 170 65 [fx_f 56, .inl (x1), .inl (x2), .inl (x3), .inl (x4), v5] [] M (some (.inl (x3))) M := by
  refine Ev.run 2 fd_e170 (i' := 68) (ls' := [fx_f 56, .inl (x1), .inl (x2), .inl (x3), .inl (x4), v5]) (st' := [.inl (x3)]) (M1 := M) rfl ?_
  exact Ev.ret1 fd_e170 rfl rfl
theorem r170_67 {X : fx_Sc} {M : fx_M} {x1 x2 x3 x4 : Int} {v5 : fx_V} : Ev X 170 67 [fx_f 56, .inl (x1), .inl (x2), .inl (x3), .inl (x4), v5] [] M (some (.inl (x2))) M := by
  refine Ev.run 1 fd_e170 (i' := 68) (ls' := [fx_f 56, .inl (x1), .inl (x2), .inl (x3), .inl (x4), v5]) (st' := [.inl (x2)]) (M1 := M) rfl ?_
  exact Ev.ret1 fd_e170 rfl rfl
-- 171: FoldedStripsModel.bestSlide(II)I
theorem fd_e171 : fd_C 171 = fd_c171 := rfl
theorem r171_0 {X : fx_Sc} {M M' : fx_M} {r : Option fx_V} {x1 x2 z : Int} {M1 : fx_M} (hc : Ev X 116 0 [.inl (x1)] [] M (some (.inl z)) M1) (k : Ev X 171 2 [fx_f 56, .inl (x1), .inl (x2), fx_u, fx_u, fx_u, fx_u, fx_u] [.inl (z)] M1 r M') : Ev X 171 0 [fx_f 56, .inl (x1), .inl (x2), fx_u, fx_u, fx_u, fx_u, fx_u] [] M r M' := by
  refine Ev.run 1 fd_e171 (i' := 1) (ls' := [fx_f 56, .inl (x1), .inl (x2), fx_u, fx_u, fx_u, fx_u, fx_u]) (st' := [.inl (x1)]) (M1 := M) rfl ?_
  refine Ev.callS (vs := [.inl (x1)]) (rest := []) (r1 := (some (.inl z))) fd_e171 rfl rfl rfl (Nat.le_of_ble_eq_true rfl) (Nat.le_of_ble_eq_true rfl) hc ?_
  exact k
theorem r171_2T {X : fx_Sc} {M M' : fx_M} {r : Option fx_V} {x1 x2 s0 : Int} (g : (-2147483648 ≤ s0 ∧ s0 < 2147483648)) (h : s0 ≠ 0) (k : Ev X 171 5 [fx_f 56, .inl (x1), .inl (x2), fx_u, fx_u, fx_u, fx_u, fx_u] [] M r M') : Ev X 171 2 [fx_f 56, .inl (x1), .inl (x2), fx_u, fx_u, fx_u, fx_u, fx_u] [.inl (s0)] M r M' := by
  refine Ev.ifT fd_e171 rfl g (decide_eq_true h) ?_
  exact k
theorem r171_2F {X : fx_Sc} {M M' : fx_M} {r : Option fx_V} {x1 x2 s0 : Int} (g : (-2147483648 ≤ s0 ∧ s0 < 2147483648)) (h : s0 = 0) (k : Ev X 171 3 [fx_f 56, .inl (x1), .inl (x2), fx_u, fx_u, fx_u, fx_u, fx_u] [] M r M') : Ev X 171 2 [fx_f 56, .inl (x1), .inl (x2), fx_u, fx_u, fx_u, fx_u, fx_u] [.inl (s0)] M r M' := by
  refine Ev.ifF fd_e171 rfl g (decide_eq_false (not_not_intro h)) ?_
  exact k
theorem r171_3 {X : fx_Sc} {M : fx_M} {x1 x2 : Int} : Ev X 171 3 [fx_f 56, .inl (x1), .inl (x2), fx_u, fx_u, fx_u, fx_u, fx_u] [] M (some (.inl ((-1)))) M := by
  refine Ev.run 1 fd_e171 (i' := 4) (ls' := [fx_f 56, .inl (x1), .inl (x2), fx_u, fx_u, fx_u, fx_u, fx_u]) (st' := [.inl ((-1))]) (M1 := M) rfl ?_
  exact Ev.ret1 fd_e171 rfl rfl
theorem r171_5 {X : fx_Sc} {M M' : fx_M} {r : Option fx_V} {x1 x2 z : Int} {M1 : fx_M} (hc : Ev X 117 0 [.inl (x2), .inl (0), .inl (1)] [] M (some (.inl z)) M1) (k : Ev X 171 9 [fx_f 56, .inl (x1), .inl (x2), fx_u, fx_u, fx_u, fx_u, fx_u] [.inl (z)] M1 r M') : Ev X 171 5 [fx_f 56, .inl (x1), .inl (x2), fx_u, fx_u, fx_u, fx_u, fx_u] [] M r M' := by
  refine Ev.run 3 fd_e171 (i' := 8) (ls' := [fx_f 56, .inl (x1), .inl (x2), fx_u, fx_u, fx_u, fx_u, fx_u]) (st' := [.inl (1), .inl (0), .inl (x2)]) (M1 := M) rfl ?_
  refine Ev.callS (vs := [.inl (x2), .inl (0), .inl (1)]) (rest := []) (r1 := (some (.inl z))) fd_e171 rfl rfl rfl (Nat.le_of_ble_eq_true rfl) (Nat.le_of_ble_eq_true rfl) hc ?_
  exact k
theorem r171_9T {X : fx_Sc} {M M' : fx_M} {r : Option fx_V} {x1 x2 s0 : Int} (g : (-2147483648 ≤ s0 ∧ s0 < 2147483648)) (h : s0 ≠ 0) (k : Ev X 171 12 [fx_f 56, .inl (x1), .inl (x2), fx_u, fx_u, fx_u, fx_u, fx_u] [] M r M') : Ev X 171 9 [fx_f 56, .inl (x1), .inl (x2), fx_u, fx_u, fx_u, fx_u, fx_u] [.inl (s0)] M r M' := by
  refine Ev.ifT fd_e171 rfl g (decide_eq_true h) ?_
  exact k
theorem r171_9F {X : fx_Sc} {M M' : fx_M} {r : Option fx_V} {x1 x2 s0 : Int} (g : (-2147483648 ≤ s0 ∧ s0 < 2147483648)) (h : s0 = 0) (k : Ev X 171 10 [fx_f 56, .inl (x1), .inl (x2), fx_u, fx_u, fx_u, fx_u, fx_u] [] M r M') : Ev X 171 9 [fx_f 56, .inl (x1), .inl (x2), fx_u, fx_u, fx_u, fx_u, fx_u] [.inl (s0)] M r M' := by
  refine Ev.ifF fd_e171 rfl g (decide_eq_false (not_not_intro h)) ?_
  exact k
theorem r171_10 {X : fx_Sc} {M : fx_M} {x1 x2 : Int} : Ev X 171 10 [fx_f 56, .inl (x1), .inl (x2), fx_u, fx_u, fx_u, fx_u, fx_u] [] M (some (.inl ((-2)))) M := by
  refine Ev.run 1 fd_e171 (i' := 11) (ls' := [fx_f 56, .inl (x1), .inl (x2), fx_u, fx_u, fx_u, fx_u, fx_u]) (st' := [.inl ((-2))]) (M1 := M) rfl ?_
  exact Ev.ret1 fd_e171 rfl rfl
theorem r171_12 {X : fx_Sc} {M M' : fx_M} {r : Option fx_V} {x1 x2 : Int} {M1 : fx_M} (hc : Ev X 172 0 [fx_f 56, fx_u] [] M none M1) (k : Ev X 171 14 [fx_f 56, .inl (x1), .inl (x2), fx_u, fx_u, fx_u, fx_u, fx_u] [] M1 r M') : Ev X 171 12 [fx_f 56, .inl (x1), .inl (x2), fx_u, fx_u, fx_u, fx_u, fx_u] [] M r M' := by
  refine Ev.run 1 fd_e171 (i' := 13) (ls' := [fx_f 56, .inl (x1), .inl (x2), fx_u, fx_u, fx_u, fx_u, fx_u]) (st' := [fx_f 56]) (M1 := M) rfl ?_
  refine Ev.callV (vs := [fx_f 56]) (rest := []) (r1 := none) fd_e171 rfl rfl rfl (Nat.le_of_ble_eq_true rfl) (Nat.le_of_ble_eq_true rfl) rfl hc ?_
  exact k
theorem r171_14 {X : fx_Sc} {M M' : fx_M} {r : Option fx_V} {x1 x2 z : Int} {M1 : fx_M} (hc : Ev X 129 0 [fx_f 56] [] M (some (.inl z)) M1) (k : Ev X 171 18 [fx_f 56, .inl (x1), .inl (x2), .inl (0), fx_u, fx_u, fx_u, fx_u] [.inl (z)] M1 r M') : Ev X 171 14 [fx_f 56, .inl (x1), .inl (x2), fx_u, fx_u, fx_u, fx_u, fx_u] [] M r M' := by
  refine Ev.run 3 fd_e171 (i' := 17) (ls' := [fx_f 56, .inl (x1), .inl (x2), .inl (0), fx_u, fx_u, fx_u, fx_u]) (st' := [fx_f 56]) (M1 := M) rfl ?_
  refine Ev.callV (vs := [fx_f 56]) (rest := []) (r1 := (some (.inl z))) fd_e171 rfl rfl rfl (Nat.le_of_ble_eq_true rfl) (Nat.le_of_ble_eq_true rfl) rfl hc ?_
  exact k
theorem r171_18 {X : fx_Sc} {M M' : fx_M} {r : Option fx_V} {x1 x2 x3 s0 : Int} (k : Ev X 171 21 [fx_f 56, .inl (x1), .inl (x2), .inl (x3), .inl (s0), .inl (0), fx_u, fx_u] [] M r M') : Ev X 171 18 [fx_f 56, .inl (x1), .inl (x2), .inl (x3), fx_u, fx_u, fx_u, fx_u] [.inl (s0)] M r M' := by
  refine Ev.run 3 fd_e171 (i' := 21) (ls' := [fx_f 56, .inl (x1), .inl (x2), .inl (x3), .inl (s0), .inl (0), fx_u, fx_u]) (st' := []) (M1 := M) rfl ?_
  exact k
theorem r171_21T {X : fx_Sc} {M M' : fx_M} {r : Option fx_V} {x1 x2 x3 x4 x5 : Int} {v6 v7 : fx_V} (g : (-2147483648 ≤ x5 ∧ x5 < 2147483648)) (h : 22 ≤ x5) (k : Ev X 171 72 [fx_f 56, .inl (x1), .inl (x2), .inl (x3), .inl (x4), .inl (x5), v6, v7] [] M r M') : Ev X 171 21 [fx_f 56, .inl (x1), .inl (x2), .inl (x3), .inl (x4), .inl (x5), v6, v7] [] M r M' := by
  refine Ev.run 2 fd_e171 (i' := 23) (ls' := [fx_f 56, .inl (x1), .inl (x2), .inl (x3), .inl (x4), .inl (x5), v6, v7]) (st' := [.inl (22), .inl (x5)]) (M1 := M) rfl ?_
  refine Ev.icT fd_e171 rfl g (by decide) (decide_eq_true h) ?_
  exact k
theorem r171_21F {X : fx_Sc} {M M' : fx_M} {r : Option fx_V} {x1 x2 x3 x4 x5 : Int} {v6 v7 : fx_V} (g : (-2147483648 ≤ x5 ∧ x5 < 2147483648)) (h : x5 < 22) (k : Ev X 171 24 [fx_f 56, .inl (x1), .inl (x2), .inl (x3), .inl (x4), .inl (x5), v6, v7] [] M r M') : Ev X 171 21 [fx_f 56, .inl (x1), .inl (x2), .inl (x3), .inl (x4), .inl (x5), v6, v7] [] M r M' := by
  refine Ev.run 2 fd_e171 (i' := 23) (ls' := [fx_f 56, .inl (x1), .inl (x2), .inl (x3), .inl (x4), .inl (x5), v6, v7]) (st' := [.inl (22), .inl (x5)]) (M1 := M) rfl ?_
  refine Ev.icF fd_e171 rfl g (by decide) (decide_eq_false (Int.not_le.mpr h)) ?_
  exact k
theorem r171_24T {X : fx_Sc} {M M' : fx_M} {r : Option fx_V} {x1 x2 x3 x4 x5 : Int} {v6 v7 : fx_V} (g : (-2147483648 ≤ (fx_rem x5 2) ∧ (fx_rem x5 2) < 2147483648)) (h : (fx_rem x5 2) ≠ 0) (k : Ev X 171 34 [fx_f 56, .inl (x1), .inl (x2), .inl (x3), .inl (x4), .inl (x5), v6, v7] [] M r M') : Ev X 171 24 [fx_f 56, .inl (x1), .inl (x2), .inl (x3), .inl (x4), .inl (x5), v6, v7] [] M r M' := by
  refine Ev.run 2 fd_e171 (i' := 26) (ls' := [fx_f 56, .inl (x1), .inl (x2), .inl (x3), .inl (x4), .inl (x5), v6, v7]) (st' := [.inl (2), .inl (x5)]) (M1 := M) rfl ?_
  refine Ev.rem fd_e171 rfl (by decide) ?_
  refine Ev.ifT fd_e171 rfl g (decide_eq_true h) ?_
  exact k
theorem r171_24F {X : fx_Sc} {M M' : fx_M} {r : Option fx_V} {x1 x2 x3 x4 x5 : Int} {v6 v7 : fx_V} (g : (-2147483648 ≤ (fx_rem x5 2) ∧ (fx_rem x5 2) < 2147483648)) (h : (fx_rem x5 2) = 0) (k : Ev X 171 28 [fx_f 56, .inl (x1), .inl (x2), .inl (x3), .inl (x4), .inl (x5), v6, v7] [] M r M') : Ev X 171 24 [fx_f 56, .inl (x1), .inl (x2), .inl (x3), .inl (x4), .inl (x5), v6, v7] [] M r M' := by
  refine Ev.run 2 fd_e171 (i' := 26) (ls' := [fx_f 56, .inl (x1), .inl (x2), .inl (x3), .inl (x4), .inl (x5), v6, v7]) (st' := [.inl (2), .inl (x5)]) (M1 := M) rfl ?_
  refine Ev.rem fd_e171 rfl (by decide) ?_
  refine Ev.ifF fd_e171 rfl g (decide_eq_false (not_not_intro h)) ?_
  exact k
theorem r171_28 {X : fx_Sc} {M M' : fx_M} {r : Option fx_V} {x1 x2 x3 x4 x5 z : Int} {v6 v7 : fx_V} {M1 : fx_M} (hc : Ev X 126 0 [fx_f 56, .inl (x1), .inl (((-1) - (fx_div x5 2))), fx_u, fx_u] [] M (some (.inl z)) M1) (k : Ev X 171 44 [fx_f 56, .inl (x1), .inl (x2), .inl (x3), .inl (x4), .inl (x5), .inl (((-1) - (fx_div x5 2))), v7] [.inl (z)] M1 r M') : Ev X 171 28 [fx_f 56, .inl (x1), .inl (x2), .inl (x3), .inl (x4), .inl (x5), v6, v7] [] M r M' := by
  refine Ev.run 3 fd_e171 (i' := 31) (ls' := [fx_f 56, .inl (x1), .inl (x2), .inl (x3), .inl (x4), .inl (x5), v6, v7]) (st' := [.inl (2), .inl (x5), .inl ((-1))]) (M1 := M) rfl ?_
  refine Ev.div fd_e171 rfl (by decide) ?_
  refine Ev.run 6 fd_e171 (i' := 43) (ls' := [fx_f 56, .inl (x1), .inl (x2), .inl (x3), .inl (x4), .inl (x5), .inl (((-1) - (fx_div x5 2))), v7]) (st' := [.inl (((-1) - (fx_div x5 2))), .inl (x1), fx_f 56]) (M1 := M) rfl ?_
  refine Ev.callV (vs := [fx_f 56, .inl (x1), .inl (((-1) - (fx_div x5 2)))]) (rest := []) (r1 := (some (.inl z))) fd_e171 rfl rfl rfl (Nat.le_of_ble_eq_true rfl) (Nat.le_of_ble_eq_true rfl) rfl hc ?_
  exact k
theorem r171_34 {X : fx_Sc} {M M' : fx_M} {r : Option fx_V} {x1 x2 x3 x4 x5 z : Int} {v6 v7 : fx_V} {M1 : fx_M} (hc : Ev X 126 0 [fx_f 56, .inl (x1), .inl ((1 + (fx_div x5 2))), fx_u, fx_u] [] M (some (.inl z)) M1) (k : Ev X 171 44 [fx_f 56, .inl (x1), .inl (x2), .inl (x3), .inl (x4), .inl (x5), .inl ((1 + (fx_div x5 2))), v7] [.inl (z)] M1 r M') : Ev X 171 34 [fx_f 56, .inl (x1), .inl (x2), .inl (x3), .inl (x4), .inl (x5), v6, v7] [] M r M' := by
  refine Ev.run 3 fd_e171 (i' := 37) (ls' := [fx_f 56, .inl (x1), .inl (x2), .inl (x3), .inl (x4), .inl (x5), v6, v7]) (st' := [.inl (2), .inl (x5), .inl (1)]) (M1 := M) rfl ?_
  refine Ev.div fd_e171 rfl (by decide) ?_
  refine Ev.run 5 fd_e171 (i' := 43) (ls' := [fx_f 56, .inl (x1), .inl (x2), .inl (x3), .inl (x4), .inl (x5), .inl ((1 + (fx_div x5 2))), v7]) (st' := [.inl ((1 + (fx_div x5 2))), .inl (x1), fx_f 56]) (M1 := M) rfl ?_
  refine Ev.callV (vs := [fx_f 56, .inl (x1), .inl ((1 + (fx_div x5 2)))]) (rest := []) (r1 := (some (.inl z))) fd_e171 rfl rfl rfl (Nat.le_of_ble_eq_true rfl) (Nat.le_of_ble_eq_true rfl) rfl hc ?_
  exact k
theorem r171_44T {X : fx_Sc} {M M' : fx_M} {r : Option fx_V} {x1 x2 x3 x4 x5 x6 s0 : Int} {v7 : fx_V} (g : (-2147483648 ≤ s0 ∧ s0 < 2147483648)) (h : s0 = 0) (k : Ev X 171 70 [fx_f 56, .inl (x1), .inl (x2), .inl (x3), .inl (x4), .inl (x5), .inl (x6), v7] [] M r M') : Ev X 171 44 [fx_f 56, .inl (x1), .inl (x2), .inl (x3), .inl (x4), .inl (x5), .inl (x6), v7] [.inl (s0)] M r M' := by
  refine Ev.ifT fd_e171 rfl g (decide_eq_true h) ?_
  exact k
theorem r171_44F {X : fx_Sc} {M M' : fx_M} {r : Option fx_V} {x1 x2 x3 x4 x5 x6 s0 : Int} {v7 : fx_V} (g : (-2147483648 ≤ s0 ∧ s0 < 2147483648)) (h : s0 ≠ 0) (k : Ev X 171 45 [fx_f 56, .inl (x1), .inl (x2), .inl (x3), .inl (x4), .inl (x5), .inl (x6), v7] [] M r M') : Ev X 171 44 [fx_f 56, .inl (x1), .inl (x2), .inl (x3), .inl (x4), .inl (x5), .inl (x6), v7] [.inl (s0)] M r M' := by
  refine Ev.ifF fd_e171 rfl g (decide_eq_false h) ?_
  exact k
theorem r171_45 {X : fx_Sc} {M M' : fx_M} {r : Option fx_V} {x1 x2 x3 x4 x5 x6 : Int} {v7 : fx_V} {M1 : fx_M} (hc : Ev X 127 0 [fx_f 56, .inl (x1), .inl (x6), .inl (0), .inl (0), fx_u, fx_u] [] M none M1) (k : Ev X 171 51 [fx_f 56, .inl (x1), .inl (x2), .inl (x3), .inl (x4), .inl (x5), .inl (x6), v7] [] M1 r M') : Ev X 171 45 [fx_f 56, .inl (x1), .inl (x2), .inl (x3), .inl (x4), .inl (x5), .inl (x6), v7] [] M r M' := by
  refine Ev.run 5 fd_e171 (i' := 50) (ls' := [fx_f 56, .inl (x1), .inl (x2), .inl (x3), .inl (x4), .inl (x5), .inl (x6), v7]) (st' := [.inl (0), .inl (0), .inl (x6), .inl (x1), fx_f 56]) (M1 := M) rfl ?_
  refine Ev.callV (vs := [fx_f 56, .inl (x1), .inl (x6), .inl (0), .inl (0)]) (rest := []) (r1 := none) fd_e171 rfl rfl rfl (Nat.le_of_ble_eq_true rfl) (Nat.le_of_ble_eq_true rfl) rfl hc ?_
  exact k
theorem r171_51 {X : fx_Sc} {M M' : fx_M} {r : Option fx_V} {x1 x2 x3 x4 x5 x6 z : Int} {v7 : fx_V} {M1 : fx_M} (hc : Ev X 129 0 [fx_f 56] [] M (some (.inl z)) M1) (k : Ev X 171 53 [fx_f 56, .inl (x1), .inl (x2), .inl (x3), .inl (x4), .inl (x5), .inl (x6), v7] [.inl (z)] M1 r M') : Ev X 171 51 [fx_f 56, .inl (x1), .inl (x2), .inl (x3), .inl (x4), .inl (x5), .inl (x6), v7] [] M r M' := by
  refine Ev.run 1 fd_e171 (i' := 52) (ls' := [fx_f 56, .inl (x1), .inl (x2), .inl (x3), .inl (x4), .inl (x5), .inl (x6), v7]) (st' := [fx_f 56]) (M1 := M) rfl ?_
  refine Ev.callV (vs := [fx_f 56]) (rest := []) (r1 := (some (.inl z))) fd_e171 rfl rfl rfl (Nat.le_of_ble_eq_true rfl) (Nat.le_of_ble_eq_true rfl) rfl hc ?_
  exact k
theorem r171_53T {X : fx_Sc} {M M' : fx_M} {r : Option fx_V} {x1 x2 x3 x4 x5 x6 s0 : Int} {v7 : fx_V} (g : (-2147483648 ≤ s0 ∧ s0 < 2147483648) ∧ (-2147483648 ≤ x4 ∧ x4 < 2147483648)) (h : x4 ≤ s0) (k : Ev X 171 59 [fx_f 56, .inl (x1), .inl (x2), .inl (x3), .inl (x4), .inl (x5), .inl (x6), .inl (s0)] [] M r M') : Ev X 171 53 [fx_f 56, .inl (x1), .inl (x2), .inl (x3), .inl (x4), .inl (x5), .inl (x6), v7] [.inl (s0)] M r M' := by
  refine Ev.run 3 fd_e171 (i' := 56) (ls' := [fx_f 56, .inl (x1), .inl (x2), .inl (x3), .inl (x4), .inl (x5), .inl (x6), .inl (s0)]) (st' := [.inl (x4), .inl (s0)]) (M1 := M) rfl ?_
  refine Ev.icT fd_e171 rfl g.1 g.2 (decide_eq_true h) ?_
  exact k
theorem r171_53F {X : fx_Sc} {M M' : fx_M} {r : Option fx_V} {x1 x2 x3 x4 x5 x6 s0 : Int} {v7 : fx_V} (g : (-2147483648 ≤ s0 ∧ s0 < 2147483648) ∧ (-2147483648 ≤ x4 ∧ x4 < 2147483648)) (h : s0 < x4) (k : Ev X 171 57 [fx_f 56, .inl (x1), .inl (x2), .inl (x3), .inl (x4), .inl (x5), .inl (x6), .inl (s0)] [] M r M') : Ev X 171 53 [fx_f 56, .inl (x1), .inl (x2), .inl (x3), .inl (x4), .inl (x5), .inl (x6), v7] [.inl (s0)] M r M' := by
  refine Ev.run 3 fd_e171 (i' := 56) (ls' := [fx_f 56, .inl (x1), .inl (x2), .inl (x3), .inl (x4), .inl (x5), .inl (x6), .inl (s0)]) (st' := [.inl (x4), .inl (s0)]) (M1 := M) rfl ?_
  refine Ev.icF fd_e171 rfl g.1 g.2 (decide_eq_false (Int.not_le.mpr h)) ?_
  exact k
theorem r171_57T {X : fx_Sc} {M M' : fx_M} {r : Option fx_V} {x1 x2 x3 x4 x5 x6 x7 : Int} (g : (-2147483648 ≤ x7 ∧ x7 < 2147483648) ∧ (-2147483648 ≤ x4 ∧ x4 < 2147483648)) (h : x4 ≤ x7) (k : Ev X 171 66 [fx_f 56, .inl (x1), .inl (x2), .inl (x6), .inl (x4), .inl (x5), .inl (x6), .inl (x7)] [] M r M') : Ev X 171 57 [fx_f 56, .inl (x1), .inl (x2), .inl (x3), .inl (x4), .inl (x5), .inl (x6), .inl (x7)] [] M r M' := by
  refine Ev.run 5 fd_e171 (i' := 63) (ls' := [fx_f 56, .inl (x1), .inl (x2), .inl (x6), .inl (x4), .inl (x5), .inl (x6), .inl (x7)]) (st' := [.inl (x4), .inl (x7)]) (M1 := M) rfl ?_
  refine Ev.icT fd_e171 rfl g.1 g.2 (decide_eq_true h) ?_
  exact k
theorem r171_57F {X : fx_Sc} {M M' : fx_M} {r : Option fx_V} {x1 x2 x3 x4 x5 x6 x7 : Int} (g : (-2147483648 ≤ x7 ∧ x7 < 2147483648) ∧ (-2147483648 ≤ x4 ∧ x4 < 2147483648)) (h : x7 < x4) (k : Ev X 171 64 [fx_f 56, .inl (x1), .inl (x2), .inl (x6), .inl (x4), .inl (x5), .inl (x6), .inl (x7)] [] M r M') : Ev X 171 57 [fx_f 56, .inl (x1), .inl (x2), .inl (x3), .inl (x4), .inl (x5), .inl (x6), .inl (x7)] [] M r M' := by
  refine Ev.run 5 fd_e171 (i' := 63) (ls' := [fx_f 56, .inl (x1), .inl (x2), .inl (x6), .inl (x4), .inl (x5), .inl (x6), .inl (x7)]) (st' := [.inl (x4), .inl (x7)]) (M1 := M) rfl ?_
  refine Ev.icF fd_e171 rfl g.1 g.2 (decide_eq_false (Int.not_le.mpr h)) ?_
  exact k
theorem r171_59T {X : fx_Sc} {M M' : fx_M} {r : Option fx_V} {x1 x2 x3 x4 x5 x6 x7 : Int} (g : (-2147483648 ≤ x7 ∧ x7 < 2147483648) ∧ (-2147483648 ≤ x4 ∧ x4 < 2147483648)) (h : x4 ≤ x7) (k : Ev X 171 66 [fx_f 56, .inl (x1), .inl (x2), .inl (x3), .inl (x4), .inl (x5), .inl (x6), .inl (x7)] [] M r M') : Ev X 171 59 [fx_f 56, .inl (x1), .inl (x2), .inl (x3), .inl (x4), .inl (x5), .inl (x6), .inl (x7)] [] M r M' := by
  refine Ev.run 4 fd_e171 (i' := 63) (ls' := [fx_f 56, .inl (x1), .inl (x2), .inl (x3), .inl (x4), .inl (x5), .inl (x6), .inl (x7)]) (st' := [.inl (x4), .inl (x7)]) (M1 := M) rfl ?_
  refine Ev.icT fd_e171 rfl g.1 g.2 (decide_eq_true h) ?_
  exact k
theorem r171_59F {X : fx_Sc} {M M' : fx_M} {r : Option fx_V} {x1 x2 x3 x4 x5 x6 x7 : Int} (g : (-2147483648 ≤ x7 ∧ x7 < 2147483648) ∧ (-2147483648 ≤ x4 ∧ x4 < 2147483648)) (h : x7 < x4) (k : Ev X 171 64 [fx_f 56, .inl (x1), .inl (x2), .inl (x3), .inl (x4), .inl (x5), .inl (x6), .inl (x7)] [] M r M') : Ev X 171 59 [fx_f 56, .inl (x1), .inl (x2), .inl (x3), .inl (x4), .inl (x5), .inl (x6), .inl (x7)] [] M r M' := by
  refine Ev.run 4 fd_e171 (i' := 63) (ls' := [fx_f 56, .inl (x1), .inl (x2), .inl (x3), .inl (x4), .inl (x5), .inl (x6), .inl (x7)]) (st' := [.inl (x4), .inl (x7)]) (M1 := M) rfl ?_
  refine Ev.icF fd_e171 rfl g.1 g.2 (decide_eq_false (Int.not_le.mpr h)) ?_
  exact k
theorem r171_64 {X : fx_Sc} {M M' : fx_M} {r : Option fx_V} {x1 x2 x3 x4 x5 x6 x7 : Int} {M1 : fx_M} (hc : Ev X 173 0 [fx_f 56, fx_u] [] M none M1) (k : Ev X 171 70 [fx_f 56, .inl (x1), .inl (x2), .inl (x3), .inl (x7), .inl (x5), .inl (x6), .inl (x7)] [] M1 r M') : Ev X 171 64 [fx_f 56, .inl (x1), .inl (x2), .inl (x3), .inl (x4), .inl (x5), .inl (x6), .inl (x7)] [] M r M' := by
  refine Ev.run 4 fd_e171 (i' := 69) (ls' := [fx_f 56, .inl (x1), .inl (x2), .inl (x3), .inl (x7), .inl (x5), .inl (x6), .inl (x7)]) (st' := [fx_f 56]) (M1 := M) rfl ?_
  refine Ev.callV (vs := [fx_f 56]) (rest := []) (r1 := none) fd_e171 rfl rfl rfl (Nat.le_of_ble_eq_true rfl) (Nat.le_of_ble_eq_true rfl) rfl hc ?_
  exact k
theorem r171_66 {X : fx_Sc} {M M' : fx_M} {r : Option fx_V} {x1 x2 x3 x4 x5 x6 x7 : Int} {M1 : fx_M} (hc : Ev X 173 0 [fx_f 56, fx_u] [] M none M1) (k : Ev X 171 70 [fx_f 56, .inl (x1), .inl (x2), .inl (x3), .inl (x4), .inl (x5), .inl (x6), .inl (x7)] [] M1 r M') : Ev X 171 66 [fx_f 56, .inl (x1), .inl (x2), .inl (x3), .inl (x4), .inl (x5), .inl (x6), .inl (x7)] [] M r M' := by
  refine Ev.run 3 fd_e171 (i' := 69) (ls' := [fx_f 56, .inl (x1), .inl (x2), .inl (x3), .inl (x4), .inl (x5), .inl (x6), .inl (x7)]) (st' := [fx_f 56]) (M1 := M) rfl ?_
  refine Ev.callV (vs := [fx_f 56]) (rest := []) (r1 := none) fd_e171 rfl rfl rfl (Nat.le_of_ble_eq_true rfl) (Nat.le_of_ble_eq_true rfl) rfl hc ?_
  exact k
theorem r171_70 {X : fx_Sc} {M M' : fx_M} {r : Option fx_V} {x1 x2 x3 x4 x5 x6 : Int} {v7 : fx_V} (k : Ev X 171 21 [fx_f 56, .inl (x1), .inl (x2), .inl (x3), .inl (x4), .inl ((x5 + 1)), .inl (x6), v7] [] M r M') : Ev X 171 70 [fx_f 56, .inl (x1), .inl (x2), .inl (x3), .inl (x4), .inl (x5), .inl (x6), v7] [] M r M' := by
  refine Ev.run 2 fd_e171 (i' := 21) (ls' := [fx_f 56, .inl (x1), .inl (x2), .inl (x3), .inl (x4), .inl ((x5 + 1)), .inl (x6), v7]) (st' := []) (M1 := M) rfl ?_
  exact k
theorem r171_72T {X : fx_Sc} {M M' : fx_M} {r : Option fx_V} {x1 x2 x3 x4 x5 : Int} {v6 v7 : fx_V} (g : (-2147483648 ≤ x2 ∧ x2 < 2147483648)) (h : x2 ≠ 0) (k : Ev X 171 78 [fx_f 56, .inl (x1), .inl (x2), .inl (x3), .inl (x4), .inl (x5), v6, v7] [] M r M') : Ev X 171 72 [fx_f 56, .inl (x1), .inl (x2), .inl (x3), .inl (x4), .inl (x5), v6, v7] [] M r M' := by
  refine Ev.run 1 fd_e171 (i' := 73) (ls' := [fx_f 56, .inl (x1), .inl (x2), .inl (x3), .inl (x4), .inl (x5), v6, v7]) (st' := [.inl (x2)]) (M1 := M) rfl ?_
  refine Ev.ifT fd_e171 rfl g (decide_eq_true h) ?_
  exact k
theorem r171_72F {X : fx_Sc} {M M' : fx_M} {r : Option fx_V} {x1 x2 x3 x4 x5 : Int} {v6 v7 : fx_V} (g : (-2147483648 ≤ x2 ∧ x2 < 2147483648)) (h : x2 = 0) (k : Ev X 171 74 [fx_f 56, .inl (x1), .inl (x2), .inl (x3), .inl (x4), .inl (x5), v6, v7] [] M r M') : Ev X 171 72 [fx_f 56, .inl (x1), .inl (x2), .inl (x3), .inl (x4), .inl (x5), v6, v7] [] M r M' := by
  refine Ev.run 1 fd_e171 (i' := 73) (ls' := [fx_f 56, .inl (x1), .inl (x2), .inl (x3), .inl (x4), .inl (x5), v6, v7]) (st' := [.inl (x2)]) (M1 := M) rfl ?_
  refine Ev.ifF fd_e171 rfl g (decide_eq_false (not_not_intro h)) ?_
  exact k
theorem r171_74 {X : fx_Sc} {M : fx_M} {x1 x2 x3 x4 x5 : Int} {v6 v7 : fx_V} : Ev X 171 74 [fx_f 56, .inl (x1), .inl (x2), .inl (x3), .inl (x4), .inl (x5), v6, v7] [] M (some (.inl ((20 + x3)))) M := by
  refine Ev.run 4 fd_e171 (i' := 79) (ls' := [fx_f 56, .inl (x1), .inl (x2), .inl (x3), .inl (x4), .inl (x5), v6, v7]) (st' := [.inl ((20 + x3))]) (M1 := M) rfl ?_
  exact Ev.ret1 fd_e171 rfl rfl
theorem r171_78 {X : fx_Sc} {M : fx_M} {x1 x2 x3 x4 x5 : Int} {v6 v7 : fx_V} : Ev X 171 78 [fx_f 56, .inl (x1), .inl (x2), .inl (x3), .inl (x4), .inl (x5), v6, v7] [] M (some (.inl (x4))) M := by
  refine Ev.run 1 fd_e171 (i' := 79) (ls' := [fx_f 56, .inl (x1), .inl (x2), .inl (x3), .inl (x4), .inl (x5), v6, v7]) (st' := [.inl (x4)]) (M1 := M) rfl ?_
  exact Ev.ret1 fd_e171 rfl rfl
-- 172: FoldedStripsModel.keepTrial()V
theorem fd_e172 : fd_C 172 = fd_c172 := rfl
theorem r172_0 {X : fx_Sc} {M M' : fx_M} {r : Option fx_V} (k : Ev X 172 2 [fx_f 56, .inl (0)] [] M r M') : Ev X 172 0 [fx_f 56, fx_u] [] M r M' := by
  refine Ev.run 2 fd_e172 (i' := 2) (ls' := [fx_f 56, .inl (0)]) (st' := []) (M1 := M) rfl ?_
  exact k
theorem r172_2T {X : fx_Sc} {M M' : fx_M} {r : Option fx_V} {x1 : Int} (g : (-2147483648 ≤ x1 ∧ x1 < 2147483648)) (h : 150 ≤ x1) (k : Ev X 172 15 [fx_f 56, .inl (x1)] [] M r M') : Ev X 172 2 [fx_f 56, .inl (x1)] [] M r M' := by
  refine Ev.run 2 fd_e172 (i' := 4) (ls' := [fx_f 56, .inl (x1)]) (st' := [.inl (150), .inl (x1)]) (M1 := M) rfl ?_
  refine Ev.icT fd_e172 rfl g (by decide) (decide_eq_true h) ?_
  exact k
theorem r172_2F {X : fx_Sc} {M M' : fx_M} {r : Option fx_V} {x1 : Int} (g : (-2147483648 ≤ x1 ∧ x1 < 2147483648)) (h : x1 < 150) (k : Ev X 172 5 [fx_f 56, .inl (x1)] [] M r M') : Ev X 172 2 [fx_f 56, .inl (x1)] [] M r M' := by
  refine Ev.run 2 fd_e172 (i' := 4) (ls' := [fx_f 56, .inl (x1)]) (st' := [.inl (150), .inl (x1)]) (M1 := M) rfl ?_
  refine Ev.icF fd_e172 rfl g (by decide) (decide_eq_false (Int.not_le.mpr h)) ?_
  exact k
theorem r172_5 {X : fx_Sc} {M M' : fx_M} {r : Option fx_V} {x1 : Int} (g : (0 ≤ x1 ∧ x1 < ((150 : Nat) : Int))) (k : Ev X 172 2 [fx_f 56, .inl ((x1 + 1))] [] (fx_set M 59 (fx_up (M 59) (x1).toNat (M 57 (x1).toNat))) r M') : Ev X 172 5 [fx_f 56, .inl (x1)] [] M r M' := by
  refine Ev.run 6 fd_e172 (i' := 11) (ls' := [fx_f 56, .inl (x1)]) (st' := [.inl (x1), fx_f 57, .inl (x1), fx_f 59]) (M1 := M) rfl ?_
  refine Ev.iald fd_e172 rfl rfl (by decide) g ?_
  refine Ev.iast fd_e172 rfl rfl (by decide) g ?_
  refine Ev.run 2 fd_e172 (i' := 2) (ls' := [fx_f 56, .inl ((x1 + 1))]) (st' := []) (M1 := (fx_set M 59 (fx_up (M 59) (x1).toNat (M 57 (x1).toNat)))) rfl ?_
  exact k
theorem r172_15 {X : fx_Sc} {M : fx_M} {x1 : Int} : Ev X 172 15 [fx_f 56, .inl (x1)] [] M none M := by
  exact Ev.retv fd_e172 rfl rfl
-- 173: FoldedStripsModel.putBack()V
theorem fd_e173 : fd_C 173 = fd_c173 := rfl
theorem r173_0 {X : fx_Sc} {M M' : fx_M} {r : Option fx_V} (k : Ev X 173 2 [fx_f 56, .inl (0)] [] M r M') : Ev X 173 0 [fx_f 56, fx_u] [] M r M' := by
  refine Ev.run 2 fd_e173 (i' := 2) (ls' := [fx_f 56, .inl (0)]) (st' := []) (M1 := M) rfl ?_
  exact k
theorem r173_2T {X : fx_Sc} {M M' : fx_M} {r : Option fx_V} {x1 : Int} (g : (-2147483648 ≤ x1 ∧ x1 < 2147483648)) (h : 150 ≤ x1) (k : Ev X 173 15 [fx_f 56, .inl (x1)] [] M r M') : Ev X 173 2 [fx_f 56, .inl (x1)] [] M r M' := by
  refine Ev.run 2 fd_e173 (i' := 4) (ls' := [fx_f 56, .inl (x1)]) (st' := [.inl (150), .inl (x1)]) (M1 := M) rfl ?_
  refine Ev.icT fd_e173 rfl g (by decide) (decide_eq_true h) ?_
  exact k
theorem r173_2F {X : fx_Sc} {M M' : fx_M} {r : Option fx_V} {x1 : Int} (g : (-2147483648 ≤ x1 ∧ x1 < 2147483648)) (h : x1 < 150) (k : Ev X 173 5 [fx_f 56, .inl (x1)] [] M r M') : Ev X 173 2 [fx_f 56, .inl (x1)] [] M r M' := by
  refine Ev.run 2 fd_e173 (i' := 4) (ls' := [fx_f 56, .inl (x1)]) (st' := [.inl (150), .inl (x1)]) (M1 := M) rfl ?_
  refine Ev.icF fd_e173 rfl g (by decide) (decide_eq_false (Int.not_le.mpr h)) ?_
  exact k
theorem r173_5 {X : fx_Sc} {M M' : fx_M} {r : Option fx_V} {x1 : Int} (g : (0 ≤ x1 ∧ x1 < ((150 : Nat) : Int))) (k : Ev X 173 2 [fx_f 56, .inl ((x1 + 1))] [] (fx_set M 57 (fx_up (M 57) (x1).toNat (M 59 (x1).toNat))) r M') : Ev X 173 5 [fx_f 56, .inl (x1)] [] M r M' := by
  refine Ev.run 6 fd_e173 (i' := 11) (ls' := [fx_f 56, .inl (x1)]) (st' := [.inl (x1), fx_f 59, .inl (x1), fx_f 57]) (M1 := M) rfl ?_
  refine Ev.iald fd_e173 rfl rfl (by decide) g ?_
  refine Ev.iast fd_e173 rfl rfl (by decide) g ?_
  refine Ev.run 2 fd_e173 (i' := 2) (ls' := [fx_f 56, .inl ((x1 + 1))]) (st' := []) (M1 := (fx_set M 57 (fx_up (M 57) (x1).toNat (M 59 (x1).toNat)))) rfl ?_
  exact k
theorem r173_15 {X : fx_Sc} {M : fx_M} {x1 : Int} : Ev X 173 15 [fx_f 56, .inl (x1)] [] M none M := by
  exact Ev.retv fd_e173 rfl rfl
-- 174: FoldedStripsModel.bestExchange(I)I
theorem fd_e174 : fd_C 174 = fd_c174 := rfl
theorem r174_0 {X : fx_Sc} {M M' : fx_M} {r : Option fx_V} {x1 z : Int} {M1 : fx_M} (hc : Ev X 117 0 [.inl (x1), .inl (0), .inl (1)] [] M (some (.inl z)) M1) (k : Ev X 174 4 [fx_f 56, .inl (x1), fx_u, fx_u, fx_u, fx_u] [.inl (z)] M1 r M') : Ev X 174 0 [fx_f 56, .inl (x1), fx_u, fx_u, fx_u, fx_u] [] M r M' := by
  refine Ev.run 3 fd_e174 (i' := 3) (ls' := [fx_f 56, .inl (x1), fx_u, fx_u, fx_u, fx_u]) (st' := [.inl (1), .inl (0), .inl (x1)]) (M1 := M) rfl ?_
  refine Ev.callS (vs := [.inl (x1), .inl (0), .inl (1)]) (rest := []) (r1 := (some (.inl z))) fd_e174 rfl rfl rfl (Nat.le_of_ble_eq_true rfl) (Nat.le_of_ble_eq_true rfl) hc ?_
  exact k
theorem r174_4T {X : fx_Sc} {M M' : fx_M} {r : Option fx_V} {x1 s0 : Int} (g : (-2147483648 ≤ s0 ∧ s0 < 2147483648)) (h : s0 ≠ 0) (k : Ev X 174 7 [fx_f 56, .inl (x1), fx_u, fx_u, fx_u, fx_u] [] M r M') : Ev X 174 4 [fx_f 56, .inl (x1), fx_u, fx_u, fx_u, fx_u] [.inl (s0)] M r M' := by
  refine Ev.ifT fd_e174 rfl g (decide_eq_true h) ?_
  exact k
theorem r174_4F {X : fx_Sc} {M M' : fx_M} {r : Option fx_V} {x1 s0 : Int} (g : (-2147483648 ≤ s0 ∧ s0 < 2147483648)) (h : s0 = 0) (k : Ev X 174 5 [fx_f 56, .inl (x1), fx_u, fx_u, fx_u, fx_u] [] M r M') : Ev X 174 4 [fx_f 56, .inl (x1), fx_u, fx_u, fx_u, fx_u] [.inl (s0)] M r M' := by
  refine Ev.ifF fd_e174 rfl g (decide_eq_false (not_not_intro h)) ?_
  exact k
theorem r174_5 {X : fx_Sc} {M : fx_M} {x1 : Int} : Ev X 174 5 [fx_f 56, .inl (x1), fx_u, fx_u, fx_u, fx_u] [] M (some (.inl ((-2)))) M := by
  refine Ev.run 1 fd_e174 (i' := 6) (ls' := [fx_f 56, .inl (x1), fx_u, fx_u, fx_u, fx_u]) (st' := [.inl ((-2))]) (M1 := M) rfl ?_
  exact Ev.ret1 fd_e174 rfl rfl
theorem r174_7 {X : fx_Sc} {M M' : fx_M} {r : Option fx_V} {x1 : Int} (k : Ev X 174 13 [fx_f 56, .inl (x1), .inl (0), .inl (1000), .inl (0), fx_u] [] M r M') : Ev X 174 7 [fx_f 56, .inl (x1), fx_u, fx_u, fx_u, fx_u] [] M r M' := by
  refine Ev.run 6 fd_e174 (i' := 13) (ls' := [fx_f 56, .inl (x1), .inl (0), .inl (1000), .inl (0), fx_u]) (st' := []) (M1 := M) rfl ?_
  exact k
theorem r174_13T {X : fx_Sc} {M M' : fx_M} {r : Option fx_V} {x1 x2 x3 x4 : Int} {v5 : fx_V} (g : (-2147483648 ≤ x4 ∧ x4 < 2147483648)) (h : 36 ≤ x4) (k : Ev X 174 66 [fx_f 56, .inl (x1), .inl (x2), .inl (x3), .inl (x4), v5] [] M r M') : Ev X 174 13 [fx_f 56, .inl (x1), .inl (x2), .inl (x3), .inl (x4), v5] [] M r M' := by
  refine Ev.run 2 fd_e174 (i' := 15) (ls' := [fx_f 56, .inl (x1), .inl (x2), .inl (x3), .inl (x4), v5]) (st' := [.inl (36), .inl (x4)]) (M1 := M) rfl ?_
  refine Ev.icT fd_e174 rfl g (by decide) (decide_eq_true h) ?_
  exact k
theorem r174_13F {X : fx_Sc} {M M' : fx_M} {r : Option fx_V} {x1 x2 x3 x4 : Int} {v5 : fx_V} (g : (-2147483648 ≤ x4 ∧ x4 < 2147483648)) (h : x4 < 36) (k : Ev X 174 16 [fx_f 56, .inl (x1), .inl (x2), .inl (x3), .inl (x4), v5] [] M r M') : Ev X 174 13 [fx_f 56, .inl (x1), .inl (x2), .inl (x3), .inl (x4), v5] [] M r M' := by
  refine Ev.run 2 fd_e174 (i' := 15) (ls' := [fx_f 56, .inl (x1), .inl (x2), .inl (x3), .inl (x4), v5]) (st' := [.inl (36), .inl (x4)]) (M1 := M) rfl ?_
  refine Ev.icF fd_e174 rfl g (by decide) (decide_eq_false (Int.not_le.mpr h)) ?_
  exact k
theorem r174_16T {X : fx_Sc} {M M' : fx_M} {r : Option fx_V} {x1 x2 x3 x4 : Int} {v5 : fx_V} (g : (-2147483648 ≤ (fx_div x4 6) ∧ (fx_div x4 6) < 2147483648) ∧ (-2147483648 ≤ (fx_rem x4 6) ∧ (fx_rem x4 6) < 2147483648)) (h : (fx_rem x4 6) ≤ (fx_div x4 6)) (k : Ev X 174 64 [fx_f 56, .inl (x1), .inl (x2), .inl (x3), .inl (x4), v5] [] M r M') : Ev X 174 16 [fx_f 56, .inl (x1), .inl (x2), .inl (x3), .inl (x4), v5] [] M r M' := by
  refine Ev.run 2 fd_e174 (i' := 18) (ls' := [fx_f 56, .inl (x1), .inl (x2), .inl (x3), .inl (x4), v5]) (st' := [.inl (6), .inl (x4)]) (M1 := M) rfl ?_
  refine Ev.div fd_e174 rfl (by decide) ?_
  refine Ev.run 2 fd_e174 (i' := 21) (ls' := [fx_f 56, .inl (x1), .inl (x2), .inl (x3), .inl (x4), v5]) (st' := [.inl (6), .inl (x4), .inl ((fx_div x4 6))]) (M1 := M) rfl ?_
  refine Ev.rem fd_e174 rfl (by decide) ?_
  refine Ev.icT fd_e174 rfl g.1 g.2 (decide_eq_true h) ?_
  exact k
theorem r174_16F {X : fx_Sc} {M M' : fx_M} {r : Option fx_V} {x1 x2 x3 x4 : Int} {v5 : fx_V} (g : (-2147483648 ≤ (fx_div x4 6) ∧ (fx_div x4 6) < 2147483648) ∧ (-2147483648 ≤ (fx_rem x4 6) ∧ (fx_rem x4 6) < 2147483648)) (h : (fx_div x4 6) < (fx_rem x4 6)) (k : Ev X 174 23 [fx_f 56, .inl (x1), .inl (x2), .inl (x3), .inl (x4), v5] [] M r M') : Ev X 174 16 [fx_f 56, .inl (x1), .inl (x2), .inl (x3), .inl (x4), v5] [] M r M' := by
  refine Ev.run 2 fd_e174 (i' := 18) (ls' := [fx_f 56, .inl (x1), .inl (x2), .inl (x3), .inl (x4), v5]) (st' := [.inl (6), .inl (x4)]) (M1 := M) rfl ?_
  refine Ev.div fd_e174 rfl (by decide) ?_
  refine Ev.run 2 fd_e174 (i' := 21) (ls' := [fx_f 56, .inl (x1), .inl (x2), .inl (x3), .inl (x4), v5]) (st' := [.inl (6), .inl (x4), .inl ((fx_div x4 6))]) (M1 := M) rfl ?_
  refine Ev.rem fd_e174 rfl (by decide) ?_
  refine Ev.icF fd_e174 rfl g.1 g.2 (decide_eq_false (Int.not_le.mpr h)) ?_
  exact k
theorem r174_23 {X : fx_Sc} {M M' : fx_M} {r : Option fx_V} {x1 x2 x3 x4 : Int} {v5 : fx_V} {M1 : fx_M} (hc : Ev X 135 0 [fx_f 56, .inl ((fx_div x4 6)), .inl ((fx_rem x4 6)), fx_u, fx_u] [] M none M1) (k : Ev X 174 31 [fx_f 56, .inl (x1), .inl (x2), .inl (x3), .inl (x4), v5] [] M1 r M') : Ev X 174 23 [fx_f 56, .inl (x1), .inl (x2), .inl (x3), .inl (x4), v5] [] M r M' := by
  refine Ev.run 3 fd_e174 (i' := 26) (ls' := [fx_f 56, .inl (x1), .inl (x2), .inl (x3), .inl (x4), v5]) (st' := [.inl (6), .inl (x4), fx_f 56]) (M1 := M) rfl ?_
  refine Ev.div fd_e174 rfl (by decide) ?_
  refine Ev.run 2 fd_e174 (i' := 29) (ls' := [fx_f 56, .inl (x1), .inl (x2), .inl (x3), .inl (x4), v5]) (st' := [.inl (6), .inl (x4), .inl ((fx_div x4 6)), fx_f 56]) (M1 := M) rfl ?_
  refine Ev.rem fd_e174 rfl (by decide) ?_
  refine Ev.callV (vs := [fx_f 56, .inl ((fx_div x4 6)), .inl ((fx_rem x4 6))]) (rest := []) (r1 := none) fd_e174 rfl rfl rfl (Nat.le_of_ble_eq_true rfl) (Nat.le_of_ble_eq_true rfl) rfl hc ?_
  exact k
theorem r174_31 {X : fx_Sc} {M M' : fx_M} {r : Option fx_V} {x1 x2 x3 x4 z : Int} {v5 : fx_V} {M1 : fx_M} (hc : Ev X 129 0 [fx_f 56] [] M (some (.inl z)) M1) (k : Ev X 174 33 [fx_f 56, .inl (x1), .inl (x2), .inl (x3), .inl (x4), v5] [.inl (z)] M1 r M') : Ev X 174 31 [fx_f 56, .inl (x1), .inl (x2), .inl (x3), .inl (x4), v5] [] M r M' := by
  refine Ev.run 1 fd_e174 (i' := 32) (ls' := [fx_f 56, .inl (x1), .inl (x2), .inl (x3), .inl (x4), v5]) (st' := [fx_f 56]) (M1 := M) rfl ?_
  refine Ev.callV (vs := [fx_f 56]) (rest := []) (r1 := (some (.inl z))) fd_e174 rfl rfl rfl (Nat.le_of_ble_eq_true rfl) (Nat.le_of_ble_eq_true rfl) rfl hc ?_
  exact k
theorem r174_33 {X : fx_Sc} {M M' : fx_M} {r : Option fx_V} {x1 x2 x3 x4 s0 : Int} {v5 : fx_V} {M1 : fx_M} (hc : Ev X 135 0 [fx_f 56, .inl ((fx_div x4 6)), .inl ((fx_rem x4 6)), fx_u, fx_u] [] M none M1) (k : Ev X 174 42 [fx_f 56, .inl (x1), .inl (x2), .inl (x3), .inl (x4), .inl (s0)] [] M1 r M') : Ev X 174 33 [fx_f 56, .inl (x1), .inl (x2), .inl (x3), .inl (x4), v5] [.inl (s0)] M r M' := by
  refine Ev.run 4 fd_e174 (i' := 37) (ls' := [fx_f 56, .inl (x1), .inl (x2), .inl (x3), .inl (x4), .inl (s0)]) (st' := [.inl (6), .inl (x4), fx_f 56]) (M1 := M) rfl ?_
  refine Ev.div fd_e174 rfl (by decide) ?_
  refine Ev.run 2 fd_e174 (i' := 40) (ls' := [fx_f 56, .inl (x1), .inl (x2), .inl (x3), .inl (x4), .inl (s0)]) (st' := [.inl (6), .inl (x4), .inl ((fx_div x4 6)), fx_f 56]) (M1 := M) rfl ?_
  refine Ev.rem fd_e174 rfl (by decide) ?_
  refine Ev.callV (vs := [fx_f 56, .inl ((fx_div x4 6)), .inl ((fx_rem x4 6))]) (rest := []) (r1 := none) fd_e174 rfl rfl rfl (Nat.le_of_ble_eq_true rfl) (Nat.le_of_ble_eq_true rfl) rfl hc ?_
  exact k
theorem r174_42T {X : fx_Sc} {M M' : fx_M} {r : Option fx_V} {x1 x2 x3 x4 x5 : Int} (g : (-2147483648 ≤ x5 ∧ x5 < 2147483648) ∧ (-2147483648 ≤ x3 ∧ x3 < 2147483648)) (h : x3 ≤ x5) (k : Ev X 174 55 [fx_f 56, .inl (x1), .inl (x2), .inl (x3), .inl (x4), .inl (x5)] [] M r M') : Ev X 174 42 [fx_f 56, .inl (x1), .inl (x2), .inl (x3), .inl (x4), .inl (x5)] [] M r M' := by
  refine Ev.run 2 fd_e174 (i' := 44) (ls' := [fx_f 56, .inl (x1), .inl (x2), .inl (x3), .inl (x4), .inl (x5)]) (st' := [.inl (x3), .inl (x5)]) (M1 := M) rfl ?_
  refine Ev.icT fd_e174 rfl g.1 g.2 (decide_eq_true h) ?_
  exact k
theorem r174_42F {X : fx_Sc} {M M' : fx_M} {r : Option fx_V} {x1 x2 x3 x4 x5 : Int} (g : (-2147483648 ≤ x5 ∧ x5 < 2147483648) ∧ (-2147483648 ≤ x3 ∧ x3 < 2147483648)) (h : x5 < x3) (k : Ev X 174 45 [fx_f 56, .inl (x1), .inl (x2), .inl (x3), .inl (x4), .inl (x5)] [] M r M') : Ev X 174 42 [fx_f 56, .inl (x1), .inl (x2), .inl (x3), .inl (x4), .inl (x5)] [] M r M' := by
  refine Ev.run 2 fd_e174 (i' := 44) (ls' := [fx_f 56, .inl (x1), .inl (x2), .inl (x3), .inl (x4), .inl (x5)]) (st' := [.inl (x3), .inl (x5)]) (M1 := M) rfl ?_
  refine Ev.icF fd_e174 rfl g.1 g.2 (decide_eq_false (Int.not_le.mpr h)) ?_
  exact k
theorem r174_45T {X : fx_Sc} {M M' : fx_M} {r : Option fx_V} {x1 x2 x3 x4 x5 : Int} (g : (-2147483648 ≤ x5 ∧ x5 < 2147483648) ∧ (-2147483648 ≤ x3 ∧ x3 < 2147483648)) (h : x3 ≤ x5) (k : Ev X 174 62 [fx_f 56, .inl (x1), .inl (((10 * (fx_div x4 6)) + (fx_rem x4 6))), .inl (x3), .inl (x4), .inl (x5)] [] M r M') : Ev X 174 45 [fx_f 56, .inl (x1), .inl (x2), .inl (x3), .inl (x4), .inl (x5)] [] M r M' := by
  refine Ev.run 3 fd_e174 (i' := 48) (ls' := [fx_f 56, .inl (x1), .inl (x2), .inl (x3), .inl (x4), .inl (x5)]) (st' := [.inl (6), .inl (x4), .inl (10)]) (M1 := M) rfl ?_
  refine Ev.div fd_e174 rfl (by decide) ?_
  refine Ev.run 3 fd_e174 (i' := 52) (ls' := [fx_f 56, .inl (x1), .inl (x2), .inl (x3), .inl (x4), .inl (x5)]) (st' := [.inl (6), .inl (x4), .inl ((10 * (fx_div x4 6)))]) (M1 := M) rfl ?_
  refine Ev.rem fd_e174 rfl (by decide) ?_
  refine Ev.run 5 fd_e174 (i' := 59) (ls' := [fx_f 56, .inl (x1), .inl (((10 * (fx_div x4 6)) + (fx_rem x4 6))), .inl (x3), .inl (x4), .inl (x5)]) (st' := [.inl (x3), .inl (x5)]) (M1 := M) rfl ?_
  refine Ev.icT fd_e174 rfl g.1 g.2 (decide_eq_true h) ?_
  exact k
theorem r174_45F {X : fx_Sc} {M M' : fx_M} {r : Option fx_V} {x1 x2 x3 x4 x5 : Int} (g : (-2147483648 ≤ x5 ∧ x5 < 2147483648) ∧ (-2147483648 ≤ x3 ∧ x3 < 2147483648)) (h : x5 < x3) (k : Ev X 174 60 [fx_f 56, .inl (x1), .inl (((10 * (fx_div x4 6)) + (fx_rem x4 6))), .inl (x3), .inl (x4), .inl (x5)] [] M r M') : Ev X 174 45 [fx_f 56, .inl (x1), .inl (x2), .inl (x3), .inl (x4), .inl (x5)] [] M r M' := by
  refine Ev.run 3 fd_e174 (i' := 48) (ls' := [fx_f 56, .inl (x1), .inl (x2), .inl (x3), .inl (x4), .inl (x5)]) (st' := [.inl (6), .inl (x4), .inl (10)]) (M1 := M) rfl ?_
  refine Ev.div fd_e174 rfl (by decide) ?_
  refine Ev.run 3 fd_e174 (i' := 52) (ls' := [fx_f 56, .inl (x1), .inl (x2), .inl (x3), .inl (x4), .inl (x5)]) (st' := [.inl (6), .inl (x4), .inl ((10 * (fx_div x4 6)))]) (M1 := M) rfl ?_
  refine Ev.rem fd_e174 rfl (by decide) ?_
  refine Ev.run 5 fd_e174 (i' := 59) (ls' := [fx_f 56, .inl (x1), .inl (((10 * (fx_div x4 6)) + (fx_rem x4 6))), .inl (x3), .inl (x4), .inl (x5)]) (st' := [.inl (x3), .inl (x5)]) (M1 := M) rfl ?_
  refine Ev.icF fd_e174 rfl g.1 g.2 (decide_eq_false (Int.not_le.mpr h)) ?_
  exact k
theorem r174_55T {X : fx_Sc} {M M' : fx_M} {r : Option fx_V} {x1 x2 x3 x4 x5 : Int} (g : (-2147483648 ≤ x5 ∧ x5 < 2147483648) ∧ (-2147483648 ≤ x3 ∧ x3 < 2147483648)) (h : x3 ≤ x5) (k : Ev X 174 62 [fx_f 56, .inl (x1), .inl (x2), .inl (x3), .inl (x4), .inl (x5)] [] M r M') : Ev X 174 55 [fx_f 56, .inl (x1), .inl (x2), .inl (x3), .inl (x4), .inl (x5)] [] M r M' := by
  refine Ev.run 4 fd_e174 (i' := 59) (ls' := [fx_f 56, .inl (x1), .inl (x2), .inl (x3), .inl (x4), .inl (x5)]) (st' := [.inl (x3), .inl (x5)]) (M1 := M) rfl ?_
  refine Ev.icT fd_e174 rfl g.1 g.2 (decide_eq_true h) ?_
  exact k
theorem r174_55F {X : fx_Sc} {M M' : fx_M} {r : Option fx_V} {x1 x2 x3 x4 x5 : Int} (g : (-2147483648 ≤ x5 ∧ x5 < 2147483648) ∧ (-2147483648 ≤ x3 ∧ x3 < 2147483648)) (h : x5 < x3) (k : Ev X 174 60 [fx_f 56, .inl (x1), .inl (x2), .inl (x3), .inl (x4), .inl (x5)] [] M r M') : Ev X 174 55 [fx_f 56, .inl (x1), .inl (x2), .inl (x3), .inl (x4), .inl (x5)] [] M r M' := by
  refine Ev.run 4 fd_e174 (i' := 59) (ls' := [fx_f 56, .inl (x1), .inl (x2), .inl (x3), .inl (x4), .inl (x5)]) (st' := [.inl (x3), .inl (x5)]) (M1 := M) rfl ?_
  refine Ev.icF fd_e174 rfl g.1 g.2 (decide_eq_false (Int.not_le.mpr h)) ?_
  exact k
theorem r174_60 {X : fx_Sc} {M M' : fx_M} {r : Option fx_V} {x1 x2 x3 x4 x5 : Int} (k : Ev X 174 13 [fx_f 56, .inl (x1), .inl (x2), .inl (x5), .inl ((x4 + 1)), .inl (x5)] [] M r M') : Ev X 174 60 [fx_f 56, .inl (x1), .inl (x2), .inl (x3), .inl (x4), .inl (x5)] [] M r M' := by
  refine Ev.run 5 fd_e174 (i' := 13) (ls' := [fx_f 56, .inl (x1), .inl (x2), .inl (x5), .inl ((x4 + 1)), .inl (x5)]) (st' := []) (M1 := M) rfl ?_
  exact k
theorem r174_62 {X : fx_Sc} {M M' : fx_M} {r : Option fx_V} {x1 x2 x3 x4 x5 : Int} (k : Ev X 174 13 [fx_f 56, .inl (x1), .inl (x2), .inl (x3), .inl ((x4 + 1)), .inl (x5)] [] M r M') : Ev X 174 62 [fx_f 56, .inl (x1), .inl (x2), .inl (x3), .inl (x4), .inl (x5)] [] M r M' := by
  refine Ev.run 4 fd_e174 (i' := 13) (ls' := [fx_f 56, .inl (x1), .inl (x2), .inl (x3), .inl ((x4 + 1)), .inl (x5)]) (st' := []) (M1 := M) rfl ?_
  exact k
theorem r174_64 {X : fx_Sc} {M M' : fx_M} {r : Option fx_V} {x1 x2 x3 x4 : Int} {v5 : fx_V} (k : Ev X 174 13 [fx_f 56, .inl (x1), .inl (x2), .inl (x3), .inl ((x4 + 1)), v5] [] M r M') : Ev X 174 64 [fx_f 56, .inl (x1), .inl (x2), .inl (x3), .inl (x4), v5] [] M r M' := by
  refine Ev.run 2 fd_e174 (i' := 13) (ls' := [fx_f 56, .inl (x1), .inl (x2), .inl (x3), .inl ((x4 + 1)), v5]) (st' := []) (M1 := M) rfl ?_
  exact k
theorem r174_66T {X : fx_Sc} {M M' : fx_M} {r : Option fx_V} {x1 x2 x3 x4 : Int} {v5 : fx_V} (g : (-2147483648 ≤ x1 ∧ x1 < 2147483648)) (h : x1 ≠ 0) (k : Ev X 174 70 [fx_f 56, .inl (x1), .inl (x2), .inl (x3), .inl (x4), v5] [] M r M') : Ev X 174 66 [fx_f 56, .inl (x1), .inl (x2), .inl (x3), .inl (x4), v5] [] M r M' := by
  refine Ev.run 1 fd_e174 (i' := 67) (ls' := [fx_f 56, .inl (x1), .inl (x2), .inl (x3), .inl (x4), v5]) (st' := [.inl (x1)]) (M1 := M) rfl ?_
  refine Ev.ifT fd_e174 rfl g (decide_eq_true h) ?_
  exact k
theorem r174_66F {X : fx_Sc} {M M' : fx_M} {r : Option fx_V} {x1 x2 x3 x4 : Int} {v5 : fx_V} (g : (-2147483648 ≤ x1 ∧ x1 < 2147483648)) (h : x1 = 0) (k : Ev X 174 68 [fx_f 56, .inl (x1), .inl (x2), .inl (x3), .inl (x4), v5] [] M r M') : Ev X 174 66 [fx_f 56, .inl (x1), .inl (x2), .inl (x3), .inl (x4), v5] [] M r M' := by
  refine Ev.run 1 fd_e174 (i' := 67) (ls' := [fx_f 56, .inl (x1), .inl (x2), .inl (x3), .inl (x4), v5]) (st' := [.inl (x1)]) (M1 := M) rfl ?_
  refine Ev.ifF fd_e174 rfl g (decide_eq_false (not_not_intro h)) ?_
  exact k
theorem r174_68 {X : fx_Sc} {M : fx_M} {x1 x2 x3 x4 : Int} {v5 : fx_V} : Ev X 174 68 [fx_f 56, .inl (x1), .inl (x2), .inl (x3), .inl (x4), v5] [] M (some (.inl (x2))) M := by
  refine Ev.run 2 fd_e174 (i' := 71) (ls' := [fx_f 56, .inl (x1), .inl (x2), .inl (x3), .inl (x4), v5]) (st' := [.inl (x2)]) (M1 := M) rfl ?_
  exact Ev.ret1 fd_e174 rfl rfl
theorem r174_70 {X : fx_Sc} {M : fx_M} {x1 x2 x3 x4 : Int} {v5 : fx_V} : Ev X 174 70 [fx_f 56, .inl (x1), .inl (x2), .inl (x3), .inl (x4), v5] [] M (some (.inl (x3))) M := by
  refine Ev.run 1 fd_e174 (i' := 71) (ls' := [fx_f 56, .inl (x1), .inl (x2), .inl (x3), .inl (x4), v5]) (st' := [.inl (x3)]) (M1 := M) rfl ?_
  exact Ev.ret1 fd_e174 rfl rfl
-- 175: FoldedStripsModel.ifTurned(III)I
theorem fd_e175 : fd_C 175 = fd_c175 := rfl
theorem r175_0 {X : fx_Sc} {M M' : fx_M} {r : Option fx_V} {x1 x2 x3 z : Int} {M1 : fx_M} (hc : Ev X 116 0 [.inl (x1)] [] M (some (.inl z)) M1) (k : Ev X 175 2 [fx_f 56, .inl (x1), .inl (x2), .inl (x3), fx_u] [.inl (z)] M1 r M') : Ev X 175 0 [fx_f 56, .inl (x1), .inl (x2), .inl (x3), fx_u] [] M r M' := by
  refine Ev.run 1 fd_e175 (i' := 1) (ls' := [fx_f 56, .inl (x1), .inl (x2), .inl (x3), fx_u]) (st' := [.inl (x1)]) (M1 := M) rfl ?_
  refine Ev.callS (vs := [.inl (x1)]) (rest := []) (r1 := (some (.inl z))) fd_e175 rfl rfl rfl (Nat.le_of_ble_eq_true rfl) (Nat.le_of_ble_eq_true rfl) hc ?_
  exact k
theorem r175_2T {X : fx_Sc} {M M' : fx_M} {r : Option fx_V} {x1 x2 x3 s0 : Int} (g : (-2147483648 ≤ s0 ∧ s0 < 2147483648)) (h : s0 ≠ 0) (k : Ev X 175 5 [fx_f 56, .inl (x1), .inl (x2), .inl (x3), fx_u] [] M r M') : Ev X 175 2 [fx_f 56, .inl (x1), .inl (x2), .inl (x3), fx_u] [.inl (s0)] M r M' := by
  refine Ev.ifT fd_e175 rfl g (decide_eq_true h) ?_
  exact k
theorem r175_2F {X : fx_Sc} {M M' : fx_M} {r : Option fx_V} {x1 x2 x3 s0 : Int} (g : (-2147483648 ≤ s0 ∧ s0 < 2147483648)) (h : s0 = 0) (k : Ev X 175 3 [fx_f 56, .inl (x1), .inl (x2), .inl (x3), fx_u] [] M r M') : Ev X 175 2 [fx_f 56, .inl (x1), .inl (x2), .inl (x3), fx_u] [.inl (s0)] M r M' := by
  refine Ev.ifF fd_e175 rfl g (decide_eq_false (not_not_intro h)) ?_
  exact k
theorem r175_3 {X : fx_Sc} {M : fx_M} {x1 x2 x3 : Int} : Ev X 175 3 [fx_f 56, .inl (x1), .inl (x2), .inl (x3), fx_u] [] M (some (.inl ((-1)))) M := by
  refine Ev.run 1 fd_e175 (i' := 4) (ls' := [fx_f 56, .inl (x1), .inl (x2), .inl (x3), fx_u]) (st' := [.inl ((-1))]) (M1 := M) rfl ?_
  exact Ev.ret1 fd_e175 rfl rfl
theorem r175_5 {X : fx_Sc} {M M' : fx_M} {r : Option fx_V} {x1 x2 x3 z : Int} {M1 : fx_M} (hc : Ev X 117 0 [.inl (x2), .inl (0), .inl (2)] [] M (some (.inl z)) M1) (k : Ev X 175 9 [fx_f 56, .inl (x1), .inl (x2), .inl (x3), fx_u] [.inl (z)] M1 r M') : Ev X 175 5 [fx_f 56, .inl (x1), .inl (x2), .inl (x3), fx_u] [] M r M' := by
  refine Ev.run 3 fd_e175 (i' := 8) (ls' := [fx_f 56, .inl (x1), .inl (x2), .inl (x3), fx_u]) (st' := [.inl (2), .inl (0), .inl (x2)]) (M1 := M) rfl ?_
  refine Ev.callS (vs := [.inl (x2), .inl (0), .inl (2)]) (rest := []) (r1 := (some (.inl z))) fd_e175 rfl rfl rfl (Nat.le_of_ble_eq_true rfl) (Nat.le_of_ble_eq_true rfl) hc ?_
  exact k
theorem r175_9T {X : fx_Sc} {M M' : fx_M} {r : Option fx_V} {x1 x2 x3 s0 : Int} (g : (-2147483648 ≤ s0 ∧ s0 < 2147483648)) (h : s0 = 0) (k : Ev X 175 15 [fx_f 56, .inl (x1), .inl (x2), .inl (x3), fx_u] [] M r M') : Ev X 175 9 [fx_f 56, .inl (x1), .inl (x2), .inl (x3), fx_u] [.inl (s0)] M r M' := by
  refine Ev.ifT fd_e175 rfl g (decide_eq_true h) ?_
  exact k
theorem r175_9F {X : fx_Sc} {M M' : fx_M} {r : Option fx_V} {x1 x2 x3 s0 : Int} (g : (-2147483648 ≤ s0 ∧ s0 < 2147483648)) (h : s0 ≠ 0) (k : Ev X 175 10 [fx_f 56, .inl (x1), .inl (x2), .inl (x3), fx_u] [] M r M') : Ev X 175 9 [fx_f 56, .inl (x1), .inl (x2), .inl (x3), fx_u] [.inl (s0)] M r M' := by
  refine Ev.ifF fd_e175 rfl g (decide_eq_false h) ?_
  exact k
theorem r175_10 {X : fx_Sc} {M M' : fx_M} {r : Option fx_V} {x1 x2 x3 z : Int} {M1 : fx_M} (hc : Ev X 117 0 [.inl (x3), .inl (0), .inl (2)] [] M (some (.inl z)) M1) (k : Ev X 175 14 [fx_f 56, .inl (x1), .inl (x2), .inl (x3), fx_u] [.inl (z)] M1 r M') : Ev X 175 10 [fx_f 56, .inl (x1), .inl (x2), .inl (x3), fx_u] [] M r M' := by
  refine Ev.run 3 fd_e175 (i' := 13) (ls' := [fx_f 56, .inl (x1), .inl (x2), .inl (x3), fx_u]) (st' := [.inl (2), .inl (0), .inl (x3)]) (M1 := M) rfl ?_
  refine Ev.callS (vs := [.inl (x3), .inl (0), .inl (2)]) (rest := []) (r1 := (some (.inl z))) fd_e175 rfl rfl rfl (Nat.le_of_ble_eq_true rfl) (Nat.le_of_ble_eq_true rfl) hc ?_
  exact k
theorem r175_14T {X : fx_Sc} {M M' : fx_M} {r : Option fx_V} {x1 x2 x3 s0 : Int} (g : (-2147483648 ≤ s0 ∧ s0 < 2147483648)) (h : s0 ≠ 0) (k : Ev X 175 17 [fx_f 56, .inl (x1), .inl (x2), .inl (x3), fx_u] [] M r M') : Ev X 175 14 [fx_f 56, .inl (x1), .inl (x2), .inl (x3), fx_u] [.inl (s0)] M r M' := by
  refine Ev.ifT fd_e175 rfl g (decide_eq_true h) ?_
  exact k
theorem r175_14F {X : fx_Sc} {M M' : fx_M} {r : Option fx_V} {x1 x2 x3 s0 : Int} (g : (-2147483648 ≤ s0 ∧ s0 < 2147483648)) (h : s0 = 0) (k : Ev X 175 15 [fx_f 56, .inl (x1), .inl (x2), .inl (x3), fx_u] [] M r M') : Ev X 175 14 [fx_f 56, .inl (x1), .inl (x2), .inl (x3), fx_u] [.inl (s0)] M r M' := by
  refine Ev.ifF fd_e175 rfl g (decide_eq_false (not_not_intro h)) ?_
  exact k
theorem r175_15 {X : fx_Sc} {M : fx_M} {x1 x2 x3 : Int} : Ev X 175 15 [fx_f 56, .inl (x1), .inl (x2), .inl (x3), fx_u] [] M (some (.inl ((-2)))) M := by
  refine Ev.run 1 fd_e175 (i' := 16) (ls' := [fx_f 56, .inl (x1), .inl (x2), .inl (x3), fx_u]) (st' := [.inl ((-2))]) (M1 := M) rfl ?_
  exact Ev.ret1 fd_e175 rfl rfl
theorem r175_17 {X : fx_Sc} {M M' : fx_M} {r : Option fx_V} {x1 x2 x3 : Int} {M1 : fx_M} (hc : Ev X 172 0 [fx_f 56, fx_u] [] M none M1) (k : Ev X 175 19 [fx_f 56, .inl (x1), .inl (x2), .inl (x3), fx_u] [] M1 r M') : Ev X 175 17 [fx_f 56, .inl (x1), .inl (x2), .inl (x3), fx_u] [] M r M' := by
  refine Ev.run 1 fd_e175 (i' := 18) (ls' := [fx_f 56, .inl (x1), .inl (x2), .inl (x3), fx_u]) (st' := [fx_f 56]) (M1 := M) rfl ?_
  refine Ev.callV (vs := [fx_f 56]) (rest := []) (r1 := none) fd_e175 rfl rfl rfl (Nat.le_of_ble_eq_true rfl) (Nat.le_of_ble_eq_true rfl) rfl hc ?_
  exact k
theorem r175_19T {X : fx_Sc} {M M' : fx_M} {r : Option fx_V} {x1 x2 x3 : Int} (g : (-2147483648 ≤ x2 ∧ x2 < 2147483648)) (h : x2 = 1) (k : Ev X 175 27 [fx_f 56, .inl (x1), .inl (x2), .inl (x3), fx_u] [.inl (0), .inl (x1), fx_f 56] M r M') : Ev X 175 19 [fx_f 56, .inl (x1), .inl (x2), .inl (x3), fx_u] [] M r M' := by
  refine Ev.run 5 fd_e175 (i' := 24) (ls' := [fx_f 56, .inl (x1), .inl (x2), .inl (x3), fx_u]) (st' := [.inl (1), .inl (x2), .inl (0), .inl (x1), fx_f 56]) (M1 := M) rfl ?_
  refine Ev.icT fd_e175 rfl g (by decide) (decide_eq_true h) ?_
  exact k
theorem r175_19F {X : fx_Sc} {M M' : fx_M} {r : Option fx_V} {x1 x2 x3 : Int} (g : (-2147483648 ≤ x2 ∧ x2 < 2147483648)) (h : x2 ≠ 1) (k : Ev X 175 25 [fx_f 56, .inl (x1), .inl (x2), .inl (x3), fx_u] [.inl (0), .inl (x1), fx_f 56] M r M') : Ev X 175 19 [fx_f 56, .inl (x1), .inl (x2), .inl (x3), fx_u] [] M r M' := by
  refine Ev.run 5 fd_e175 (i' := 24) (ls' := [fx_f 56, .inl (x1), .inl (x2), .inl (x3), fx_u]) (st' := [.inl (1), .inl (x2), .inl (0), .inl (x1), fx_f 56]) (M1 := M) rfl ?_
  refine Ev.icF fd_e175 rfl g (by decide) (decide_eq_false h) ?_
  exact k
theorem r175_25T {X : fx_Sc} {M M' : fx_M} {r : Option fx_V} {x1 x2 x3 s1 s2 : Int} (g : (-2147483648 ≤ x2 ∧ x2 < 2147483648)) (h : x2 = 0) (k : Ev X 175 32 [fx_f 56, .inl (x1), .inl (x2), .inl (x3), fx_u] [.inl (1), .inl (s2), .inl (s1), fx_f 56] M r M') : Ev X 175 25 [fx_f 56, .inl (x1), .inl (x2), .inl (x3), fx_u] [.inl (s2), .inl (s1), fx_f 56] M r M' := by
  refine Ev.run 3 fd_e175 (i' := 29) (ls' := [fx_f 56, .inl (x1), .inl (x2), .inl (x3), fx_u]) (st' := [.inl (x2), .inl (1), .inl (s2), .inl (s1), fx_f 56]) (M1 := M) rfl ?_
  refine Ev.ifT fd_e175 rfl g (decide_eq_true h) ?_
  exact k
theorem r175_25F {X : fx_Sc} {M M' : fx_M} {r : Option fx_V} {x1 x2 x3 s1 s2 : Int} (g : (-2147483648 ≤ x2 ∧ x2 < 2147483648)) (h : x2 ≠ 0) (k : Ev X 175 30 [fx_f 56, .inl (x1), .inl (x2), .inl (x3), fx_u] [.inl (1), .inl (s2), .inl (s1), fx_f 56] M r M') : Ev X 175 25 [fx_f 56, .inl (x1), .inl (x2), .inl (x3), fx_u] [.inl (s2), .inl (s1), fx_f 56] M r M' := by
  refine Ev.run 3 fd_e175 (i' := 29) (ls' := [fx_f 56, .inl (x1), .inl (x2), .inl (x3), fx_u]) (st' := [.inl (x2), .inl (1), .inl (s2), .inl (s1), fx_f 56]) (M1 := M) rfl ?_
  refine Ev.ifF fd_e175 rfl g (decide_eq_false h) ?_
  exact k
theorem r175_27T {X : fx_Sc} {M M' : fx_M} {r : Option fx_V} {x1 x2 x3 s1 s2 : Int} (g : (-2147483648 ≤ x2 ∧ x2 < 2147483648)) (h : x2 = 0) (k : Ev X 175 32 [fx_f 56, .inl (x1), .inl (x2), .inl (x3), fx_u] [.inl (0), .inl (s2), .inl (s1), fx_f 56] M r M') : Ev X 175 27 [fx_f 56, .inl (x1), .inl (x2), .inl (x3), fx_u] [.inl (s2), .inl (s1), fx_f 56] M r M' := by
  refine Ev.run 2 fd_e175 (i' := 29) (ls' := [fx_f 56, .inl (x1), .inl (x2), .inl (x3), fx_u]) (st' := [.inl (x2), .inl (0), .inl (s2), .inl (s1), fx_f 56]) (M1 := M) rfl ?_
  refine Ev.ifT fd_e175 rfl g (decide_eq_true h) ?_
  exact k
theorem r175_27F {X : fx_Sc} {M M' : fx_M} {r : Option fx_V} {x1 x2 x3 s1 s2 : Int} (g : (-2147483648 ≤ x2 ∧ x2 < 2147483648)) (h : x2 ≠ 0) (k : Ev X 175 30 [fx_f 56, .inl (x1), .inl (x2), .inl (x3), fx_u] [.inl (0), .inl (s2), .inl (s1), fx_f 56] M r M') : Ev X 175 27 [fx_f 56, .inl (x1), .inl (x2), .inl (x3), fx_u] [.inl (s2), .inl (s1), fx_f 56] M r M' := by
  refine Ev.run 2 fd_e175 (i' := 29) (ls' := [fx_f 56, .inl (x1), .inl (x2), .inl (x3), fx_u]) (st' := [.inl (x2), .inl (0), .inl (s2), .inl (s1), fx_f 56]) (M1 := M) rfl ?_
  refine Ev.ifF fd_e175 rfl g (decide_eq_false h) ?_
  exact k
theorem r175_30 {X : fx_Sc} {M M' : fx_M} {r : Option fx_V} {x1 x2 x3 s1 s2 s3 : Int} {M1 : fx_M} (hc : Ev X 127 0 [fx_f 56, .inl (s1), .inl (s2), .inl (s3), .inl (1), fx_u, fx_u] [] M none M1) (k : Ev X 175 34 [fx_f 56, .inl (x1), .inl (x2), .inl (x3), fx_u] [] M1 r M') : Ev X 175 30 [fx_f 56, .inl (x1), .inl (x2), .inl (x3), fx_u] [.inl (s3), .inl (s2), .inl (s1), fx_f 56] M r M' := by
  refine Ev.run 2 fd_e175 (i' := 33) (ls' := [fx_f 56, .inl (x1), .inl (x2), .inl (x3), fx_u]) (st' := [.inl (1), .inl (s3), .inl (s2), .inl (s1), fx_f 56]) (M1 := M) rfl ?_
  refine Ev.callV (vs := [fx_f 56, .inl (s1), .inl (s2), .inl (s3), .inl (1)]) (rest := []) (r1 := none) fd_e175 rfl rfl rfl (Nat.le_of_ble_eq_true rfl) (Nat.le_of_ble_eq_true rfl) rfl hc ?_
  exact k
theorem r175_32 {X : fx_Sc} {M M' : fx_M} {r : Option fx_V} {x1 x2 x3 s1 s2 s3 : Int} {M1 : fx_M} (hc : Ev X 127 0 [fx_f 56, .inl (s1), .inl (s2), .inl (s3), .inl (0), fx_u, fx_u] [] M none M1) (k : Ev X 175 34 [fx_f 56, .inl (x1), .inl (x2), .inl (x3), fx_u] [] M1 r M') : Ev X 175 32 [fx_f 56, .inl (x1), .inl (x2), .inl (x3), fx_u] [.inl (s3), .inl (s2), .inl (s1), fx_f 56] M r M' := by
  refine Ev.run 1 fd_e175 (i' := 33) (ls' := [fx_f 56, .inl (x1), .inl (x2), .inl (x3), fx_u]) (st' := [.inl (0), .inl (s3), .inl (s2), .inl (s1), fx_f 56]) (M1 := M) rfl ?_
  refine Ev.callV (vs := [fx_f 56, .inl (s1), .inl (s2), .inl (s3), .inl (0)]) (rest := []) (r1 := none) fd_e175 rfl rfl rfl (Nat.le_of_ble_eq_true rfl) (Nat.le_of_ble_eq_true rfl) rfl hc ?_
  exact k
theorem r175_34 {X : fx_Sc} {M M' : fx_M} {r : Option fx_V} {x1 x2 x3 : Int} {M1 : fx_M} (hc : Ev X 149 0 [fx_f 56, fx_u, fx_u, fx_u] [] M none M1) (k : Ev X 175 36 [fx_f 56, .inl (x1), .inl (x2), .inl (x3), fx_u] [] M1 r M') : Ev X 175 34 [fx_f 56, .inl (x1), .inl (x2), .inl (x3), fx_u] [] M r M' := by
  refine Ev.run 1 fd_e175 (i' := 35) (ls' := [fx_f 56, .inl (x1), .inl (x2), .inl (x3), fx_u]) (st' := [fx_f 56]) (M1 := M) rfl ?_
  refine Ev.callV (vs := [fx_f 56]) (rest := []) (r1 := none) fd_e175 rfl rfl rfl (Nat.le_of_ble_eq_true rfl) (Nat.le_of_ble_eq_true rfl) rfl hc ?_
  exact k
theorem r175_36T {X : fx_Sc} {M M' : fx_M} {r : Option fx_V} {x1 x2 x3 : Int} (g : (-2147483648 ≤ x3 ∧ x3 < 2147483648)) (h : x3 ≠ 0) (k : Ev X 175 41 [fx_f 56, .inl (x1), .inl (x2), .inl (x3), fx_u] [] M r M') : Ev X 175 36 [fx_f 56, .inl (x1), .inl (x2), .inl (x3), fx_u] [] M r M' := by
  refine Ev.run 1 fd_e175 (i' := 37) (ls' := [fx_f 56, .inl (x1), .inl (x2), .inl (x3), fx_u]) (st' := [.inl (x3)]) (M1 := M) rfl ?_
  refine Ev.ifT fd_e175 rfl g (decide_eq_true h) ?_
  exact k
theorem r175_36F {X : fx_Sc} {M M' : fx_M} {r : Option fx_V} {x1 x2 x3 : Int} (g : (-2147483648 ≤ x3 ∧ x3 < 2147483648)) (h : x3 = 0) (k : Ev X 175 38 [fx_f 56, .inl (x1), .inl (x2), .inl (x3), fx_u] [] M r M') : Ev X 175 36 [fx_f 56, .inl (x1), .inl (x2), .inl (x3), fx_u] [] M r M' := by
  refine Ev.run 1 fd_e175 (i' := 37) (ls' := [fx_f 56, .inl (x1), .inl (x2), .inl (x3), fx_u]) (st' := [.inl (x3)]) (M1 := M) rfl ?_
  refine Ev.ifF fd_e175 rfl g (decide_eq_false (not_not_intro h)) ?_
  exact k
theorem r175_38 {X : fx_Sc} {M M' : fx_M} {r : Option fx_V} {x1 x2 x3 z : Int} {M1 : fx_M} (hc : Ev X 129 0 [fx_f 56] [] M (some (.inl z)) M1) (k : Ev X 175 40 [fx_f 56, .inl (x1), .inl (x2), .inl (x3), fx_u] [.inl (z)] M1 r M') : Ev X 175 38 [fx_f 56, .inl (x1), .inl (x2), .inl (x3), fx_u] [] M r M' := by
  refine Ev.run 1 fd_e175 (i' := 39) (ls' := [fx_f 56, .inl (x1), .inl (x2), .inl (x3), fx_u]) (st' := [fx_f 56]) (M1 := M) rfl ?_
  refine Ev.callV (vs := [fx_f 56]) (rest := []) (r1 := (some (.inl z))) fd_e175 rfl rfl rfl (Nat.le_of_ble_eq_true rfl) (Nat.le_of_ble_eq_true rfl) rfl hc ?_
  exact k
theorem r175_40 {X : fx_Sc} {M M' : fx_M} {r : Option fx_V} {x1 x2 x3 s0 : Int} {M1 : fx_M} (hc : Ev X 173 0 [fx_f 56, fx_u] [] M none M1) (k : Ev X 175 53 [fx_f 56, .inl (x1), .inl (x2), .inl (x3), .inl (s0)] [] M1 r M') : Ev X 175 40 [fx_f 56, .inl (x1), .inl (x2), .inl (x3), fx_u] [.inl (s0)] M r M' := by
  refine Ev.run 3 fd_e175 (i' := 52) (ls' := [fx_f 56, .inl (x1), .inl (x2), .inl (x3), .inl (s0)]) (st' := [fx_f 56]) (M1 := M) rfl ?_
  refine Ev.callV (vs := [fx_f 56]) (rest := []) (r1 := none) fd_e175 rfl rfl rfl (Nat.le_of_ble_eq_true rfl) (Nat.le_of_ble_eq_true rfl) rfl hc ?_
  exact k
theorem r175_41T {X : fx_Sc} {M M' : fx_M} {r : Option fx_V} {x1 x2 x3 : Int} (g : (-2147483648 ≤ x3 ∧ x3 < 2147483648)) (h : x3 ≠ 1) (k : Ev X 175 47 [fx_f 56, .inl (x1), .inl (x2), .inl (x3), fx_u] [] M r M') : Ev X 175 41 [fx_f 56, .inl (x1), .inl (x2), .inl (x3), fx_u] [] M r M' := by
  refine Ev.run 2 fd_e175 (i' := 43) (ls' := [fx_f 56, .inl (x1), .inl (x2), .inl (x3), fx_u]) (st' := [.inl (1), .inl (x3)]) (M1 := M) rfl ?_
  refine Ev.icT fd_e175 rfl g (by decide) (decide_eq_true h) ?_
  exact k
theorem r175_41F {X : fx_Sc} {M M' : fx_M} {r : Option fx_V} {x1 x2 x3 : Int} (g : (-2147483648 ≤ x3 ∧ x3 < 2147483648)) (h : x3 = 1) (k : Ev X 175 44 [fx_f 56, .inl (x1), .inl (x2), .inl (x3), fx_u] [] M r M') : Ev X 175 41 [fx_f 56, .inl (x1), .inl (x2), .inl (x3), fx_u] [] M r M' := by
  refine Ev.run 2 fd_e175 (i' := 43) (ls' := [fx_f 56, .inl (x1), .inl (x2), .inl (x3), fx_u]) (st' := [.inl (1), .inl (x3)]) (M1 := M) rfl ?_
  refine Ev.icF fd_e175 rfl g (by decide) (decide_eq_false (not_not_intro h)) ?_
  exact k
theorem r175_44 {X : fx_Sc} {M M' : fx_M} {r : Option fx_V} {x1 x2 x3 : Int} {M1 : fx_M} (hc : Ev X 173 0 [fx_f 56, fx_u] [] M none M1) (k : Ev X 175 53 [fx_f 56, .inl (x1), .inl (x2), .inl (x3), .inl ((M 56 14))] [] M1 r M') : Ev X 175 44 [fx_f 56, .inl (x1), .inl (x2), .inl (x3), fx_u] [] M r M' := by
  refine Ev.run 5 fd_e175 (i' := 52) (ls' := [fx_f 56, .inl (x1), .inl (x2), .inl (x3), .inl ((M 56 14))]) (st' := [fx_f 56]) (M1 := M) rfl ?_
  refine Ev.callV (vs := [fx_f 56]) (rest := []) (r1 := none) fd_e175 rfl rfl rfl (Nat.le_of_ble_eq_true rfl) (Nat.le_of_ble_eq_true rfl) rfl hc ?_
  exact k
theorem r175_47 {X : fx_Sc} {M M' : fx_M} {r : Option fx_V} {x1 x2 x3 z : Int} {M1 : fx_M} (hc : Ev X 170 0 [fx_f 56, .inl (2), fx_u, fx_u, fx_u, fx_u] [] M (some (.inl z)) M1) (k : Ev X 175 50 [fx_f 56, .inl (x1), .inl (x2), .inl (x3), fx_u] [.inl (z)] M1 r M') : Ev X 175 47 [fx_f 56, .inl (x1), .inl (x2), .inl (x3), fx_u] [] M r M' := by
  refine Ev.run 2 fd_e175 (i' := 49) (ls' := [fx_f 56, .inl (x1), .inl (x2), .inl (x3), fx_u]) (st' := [.inl (2), fx_f 56]) (M1 := M) rfl ?_
  refine Ev.callV (vs := [fx_f 56, .inl (2)]) (rest := []) (r1 := (some (.inl z))) fd_e175 rfl rfl rfl (Nat.le_of_ble_eq_true rfl) (Nat.le_of_ble_eq_true rfl) rfl hc ?_
  exact k
theorem r175_50 {X : fx_Sc} {M M' : fx_M} {r : Option fx_V} {x1 x2 x3 s0 : Int} {M1 : fx_M} (hc : Ev X 173 0 [fx_f 56, fx_u] [] M none M1) (k : Ev X 175 53 [fx_f 56, .inl (x1), .inl (x2), .inl (x3), .inl (s0)] [] M1 r M') : Ev X 175 50 [fx_f 56, .inl (x1), .inl (x2), .inl (x3), fx_u] [.inl (s0)] M r M' := by
  refine Ev.run 2 fd_e175 (i' := 52) (ls' := [fx_f 56, .inl (x1), .inl (x2), .inl (x3), .inl (s0)]) (st' := [fx_f 56]) (M1 := M) rfl ?_
  refine Ev.callV (vs := [fx_f 56]) (rest := []) (r1 := none) fd_e175 rfl rfl rfl (Nat.le_of_ble_eq_true rfl) (Nat.le_of_ble_eq_true rfl) rfl hc ?_
  exact k
theorem r175_53 {X : fx_Sc} {M : fx_M} {x1 x2 x3 x4 : Int} : Ev X 175 53 [fx_f 56, .inl (x1), .inl (x2), .inl (x3), .inl (x4)] [] M (some (.inl (x4))) M := by
  refine Ev.run 1 fd_e175 (i' := 54) (ls' := [fx_f 56, .inl (x1), .inl (x2), .inl (x3), .inl (x4)]) (st' := [.inl (x4)]) (M1 := M) rfl ?_
  exact Ev.ret1 fd_e175 rfl rfl
-- 176: FoldedStripsModel.put(J)I
theorem fd_e176 : fd_C 176 = fd_c176 := rfl
theorem r176_0 {X : fx_Sc} {M M' : fx_M} {r : Option fx_V} {y1 : Int64} (k : Ev X 176 4 [fx_f 56, .inr (.inl (y1)), fx_u, .inl (0), .inr (.inl (y1)), fx_u, fx_u, fx_u] [] M r M') : Ev X 176 0 [fx_f 56, .inr (.inl (y1)), fx_u, fx_u, fx_u, fx_u, fx_u, fx_u] [] M r M' := by
  refine Ev.run 4 fd_e176 (i' := 4) (ls' := [fx_f 56, .inr (.inl (y1)), fx_u, .inl (0), .inr (.inl (y1)), fx_u, fx_u, fx_u]) (st' := []) (M1 := M) rfl ?_
  exact k
theorem r176_4T {X : fx_Sc} {M M' : fx_M} {r : Option fx_V} {x3 : Int} {v6 : fx_V} {y1 y4 : Int64} (g : (-2147483648 ≤ x3 ∧ x3 < 2147483648)) (h : 8 ≤ x3) (k : Ev X 176 31 [fx_f 56, .inr (.inl (y1)), fx_u, .inl (x3), .inr (.inl (y4)), fx_u, v6, fx_u] [] M r M') : Ev X 176 4 [fx_f 56, .inr (.inl (y1)), fx_u, .inl (x3), .inr (.inl (y4)), fx_u, v6, fx_u] [] M r M' := by
  refine Ev.run 2 fd_e176 (i' := 6) (ls' := [fx_f 56, .inr (.inl (y1)), fx_u, .inl (x3), .inr (.inl (y4)), fx_u, v6, fx_u]) (st' := [.inl (8), .inl (x3)]) (M1 := M) rfl ?_
  refine Ev.icT fd_e176 rfl g (by decide) (decide_eq_true h) ?_
  exact k
theorem r176_4F {X : fx_Sc} {M M' : fx_M} {r : Option fx_V} {x3 : Int} {v6 : fx_V} {y1 y4 : Int64} (g : (-2147483648 ≤ x3 ∧ x3 < 2147483648)) (h : x3 < 8) (k : Ev X 176 7 [fx_f 56, .inr (.inl (y1)), fx_u, .inl (x3), .inr (.inl (y4)), fx_u, v6, fx_u] [] M r M') : Ev X 176 4 [fx_f 56, .inr (.inl (y1)), fx_u, .inl (x3), .inr (.inl (y4)), fx_u, v6, fx_u] [] M r M' := by
  refine Ev.run 2 fd_e176 (i' := 6) (ls' := [fx_f 56, .inr (.inl (y1)), fx_u, .inl (x3), .inr (.inl (y4)), fx_u, v6, fx_u]) (st' := [.inl (8), .inl (x3)]) (M1 := M) rfl ?_
  refine Ev.icF fd_e176 rfl g (by decide) (decide_eq_false (Int.not_le.mpr h)) ?_
  exact k
theorem r176_7T {X : fx_Sc} {M M' : fx_M} {r : Option fx_V} {x3 : Int} {v6 : fx_V} {y1 y4 : Int64} (g : (-2147483648 ≤ (lg_cmp (y4) (Int64.ofInt 0)).toInt ∧ (lg_cmp (y4) (Int64.ofInt 0)).toInt < 2147483648)) (h : (lg_cmp (y4) (Int64.ofInt 0)).toInt = 0) (k : Ev X 176 31 [fx_f 56, .inr (.inl (y1)), fx_u, .inl (x3), .inr (.inl (y4)), fx_u, v6, fx_u] [] M r M') : Ev X 176 7 [fx_f 56, .inr (.inl (y1)), fx_u, .inl (x3), .inr (.inl (y4)), fx_u, v6, fx_u] [] M r M' := by
  refine Ev.run 3 fd_e176 (i' := 10) (ls' := [fx_f 56, .inr (.inl (y1)), fx_u, .inl (x3), .inr (.inl (y4)), fx_u, v6, fx_u]) (st' := [.inl ((lg_cmp (y4) (Int64.ofInt 0)).toInt)]) (M1 := M) rfl ?_
  refine Ev.ifT fd_e176 rfl g (decide_eq_true h) ?_
  exact k
theorem r176_7F {X : fx_Sc} {M M' : fx_M} {r : Option fx_V} {x3 : Int} {v6 : fx_V} {y1 y4 : Int64} (g : (-2147483648 ≤ (lg_cmp (y4) (Int64.ofInt 0)).toInt ∧ (lg_cmp (y4) (Int64.ofInt 0)).toInt < 2147483648)) (h : (lg_cmp (y4) (Int64.ofInt 0)).toInt ≠ 0) (k : Ev X 176 11 [fx_f 56, .inr (.inl (y1)), fx_u, .inl (x3), .inr (.inl (y4)), fx_u, v6, fx_u] [] M r M') : Ev X 176 7 [fx_f 56, .inr (.inl (y1)), fx_u, .inl (x3), .inr (.inl (y4)), fx_u, v6, fx_u] [] M r M' := by
  refine Ev.run 3 fd_e176 (i' := 10) (ls' := [fx_f 56, .inr (.inl (y1)), fx_u, .inl (x3), .inr (.inl (y4)), fx_u, v6, fx_u]) (st' := [.inl ((lg_cmp (y4) (Int64.ofInt 0)).toInt)]) (M1 := M) rfl ?_
  refine Ev.ifF fd_e176 rfl g (decide_eq_false h) ?_
  exact k
theorem r176_11T {X : fx_Sc} {M M' : fx_M} {r : Option fx_V} {x3 : Int} {v6 : fx_V} {y1 y4 : Int64} (g : (-2147483648 ≤ (lg_cmp ((y4 &&& Int64.ofInt 255)) (Int64.ofInt 33)).toInt ∧ (lg_cmp ((y4 &&& Int64.ofInt 255)) (Int64.ofInt 33)).toInt < 2147483648)) (h : (lg_cmp ((y4 &&& Int64.ofInt 255)) (Int64.ofInt 33)).toInt < 0) (k : Ev X 176 23 [fx_f 56, .inr (.inl (y1)), fx_u, .inl (x3), .inr (.inl (y4)), fx_u, .inr (.inl ((y4 &&& Int64.ofInt 255))), fx_u] [] M r M') : Ev X 176 11 [fx_f 56, .inr (.inl (y1)), fx_u, .inl (x3), .inr (.inl (y4)), fx_u, v6, fx_u] [] M r M' := by
  refine Ev.run 7 fd_e176 (i' := 18) (ls' := [fx_f 56, .inr (.inl (y1)), fx_u, .inl (x3), .inr (.inl (y4)), fx_u, .inr (.inl ((y4 &&& Int64.ofInt 255))), fx_u]) (st' := [.inl ((lg_cmp ((y4 &&& Int64.ofInt 255)) (Int64.ofInt 33)).toInt)]) (M1 := M) rfl ?_
  refine Ev.ifT fd_e176 rfl g (decide_eq_true h) ?_
  exact k
theorem r176_11F {X : fx_Sc} {M M' : fx_M} {r : Option fx_V} {x3 : Int} {v6 : fx_V} {y1 y4 : Int64} (g : (-2147483648 ≤ (lg_cmp ((y4 &&& Int64.ofInt 255)) (Int64.ofInt 33)).toInt ∧ (lg_cmp ((y4 &&& Int64.ofInt 255)) (Int64.ofInt 33)).toInt < 2147483648)) (h : 0 ≤ (lg_cmp ((y4 &&& Int64.ofInt 255)) (Int64.ofInt 33)).toInt) (k : Ev X 176 19 [fx_f 56, .inr (.inl (y1)), fx_u, .inl (x3), .inr (.inl (y4)), fx_u, .inr (.inl ((y4 &&& Int64.ofInt 255))), fx_u] [] M r M') : Ev X 176 11 [fx_f 56, .inr (.inl (y1)), fx_u, .inl (x3), .inr (.inl (y4)), fx_u, v6, fx_u] [] M r M' := by
  refine Ev.run 7 fd_e176 (i' := 18) (ls' := [fx_f 56, .inr (.inl (y1)), fx_u, .inl (x3), .inr (.inl (y4)), fx_u, .inr (.inl ((y4 &&& Int64.ofInt 255))), fx_u]) (st' := [.inl ((lg_cmp ((y4 &&& Int64.ofInt 255)) (Int64.ofInt 33)).toInt)]) (M1 := M) rfl ?_
  refine Ev.ifF fd_e176 rfl g (decide_eq_false (Int.not_lt.mpr h)) ?_
  exact k
theorem r176_19T {X : fx_Sc} {M M' : fx_M} {r : Option fx_V} {x3 : Int} {y1 y4 y6 : Int64} (g : (-2147483648 ≤ (lg_cmp (y6) (Int64.ofInt 126)).toInt ∧ (lg_cmp (y6) (Int64.ofInt 126)).toInt < 2147483648)) (h : (lg_cmp (y6) (Int64.ofInt 126)).toInt ≤ 0) (k : Ev X 176 25 [fx_f 56, .inr (.inl (y1)), fx_u, .inl (x3), .inr (.inl (y4)), fx_u, .inr (.inl (y6)), fx_u] [] M r M') : Ev X 176 19 [fx_f 56, .inr (.inl (y1)), fx_u, .inl (x3), .inr (.inl (y4)), fx_u, .inr (.inl (y6)), fx_u] [] M r M' := by
  refine Ev.run 3 fd_e176 (i' := 22) (ls' := [fx_f 56, .inr (.inl (y1)), fx_u, .inl (x3), .inr (.inl (y4)), fx_u, .inr (.inl (y6)), fx_u]) (st' := [.inl ((lg_cmp (y6) (Int64.ofInt 126)).toInt)]) (M1 := M) rfl ?_
  refine Ev.ifT fd_e176 rfl g (decide_eq_true h) ?_
  exact k
theorem r176_19F {X : fx_Sc} {M M' : fx_M} {r : Option fx_V} {x3 : Int} {y1 y4 y6 : Int64} (g : (-2147483648 ≤ (lg_cmp (y6) (Int64.ofInt 126)).toInt ∧ (lg_cmp (y6) (Int64.ofInt 126)).toInt < 2147483648)) (h : 0 < (lg_cmp (y6) (Int64.ofInt 126)).toInt) (k : Ev X 176 23 [fx_f 56, .inr (.inl (y1)), fx_u, .inl (x3), .inr (.inl (y4)), fx_u, .inr (.inl (y6)), fx_u] [] M r M') : Ev X 176 19 [fx_f 56, .inr (.inl (y1)), fx_u, .inl (x3), .inr (.inl (y4)), fx_u, .inr (.inl (y6)), fx_u] [] M r M' := by
  refine Ev.run 3 fd_e176 (i' := 22) (ls' := [fx_f 56, .inr (.inl (y1)), fx_u, .inl (x3), .inr (.inl (y4)), fx_u, .inr (.inl (y6)), fx_u]) (st' := [.inl ((lg_cmp (y6) (Int64.ofInt 126)).toInt)]) (M1 := M) rfl ?_
  refine Ev.ifF fd_e176 rfl g (decide_eq_false (Int.not_le.mpr h)) ?_
  exact k
theorem r176_23 {X : fx_Sc} {M : fx_M} {x3 : Int} {y1 y4 y6 : Int64} : Ev X 176 23 [fx_f 56, .inr (.inl (y1)), fx_u, .inl (x3), .inr (.inl (y4)), fx_u, .inr (.inl (y6)), fx_u] [] M (some (.inl ((-2)))) M := by
  refine Ev.run 1 fd_e176 (i' := 24) (ls' := [fx_f 56, .inr (.inl (y1)), fx_u, .inl (x3), .inr (.inl (y4)), fx_u, .inr (.inl (y6)), fx_u]) (st' := [.inl ((-2))]) (M1 := M) rfl ?_
  exact Ev.ret1 fd_e176 rfl rfl
theorem r176_25 {X : fx_Sc} {M M' : fx_M} {r : Option fx_V} {x3 : Int} {y1 y4 y6 : Int64} (k : Ev X 176 4 [fx_f 56, .inr (.inl (y1)), fx_u, .inl ((x3 + 1)), .inr (.inl (((y4).toUInt64 >>> ((Int32.ofInt 8).toInt64.toUInt64 &&& Int64.toUInt64 63)).toInt64)), fx_u, .inr (.inl (y6)), fx_u] [] M r M') : Ev X 176 25 [fx_f 56, .inr (.inl (y1)), fx_u, .inl (x3), .inr (.inl (y4)), fx_u, .inr (.inl (y6)), fx_u] [] M r M' := by
  refine Ev.run 6 fd_e176 (i' := 4) (ls' := [fx_f 56, .inr (.inl (y1)), fx_u, .inl ((x3 + 1)), .inr (.inl (((y4).toUInt64 >>> ((Int32.ofInt 8).toInt64.toUInt64 &&& Int64.toUInt64 63)).toInt64)), fx_u, .inr (.inl (y6)), fx_u]) (st' := []) (M1 := M) rfl ?_
  exact k
theorem r176_31T {X : fx_Sc} {M M' : fx_M} {r : Option fx_V} {x3 : Int} {v6 : fx_V} {y1 y4 : Int64} (g : (-2147483648 ≤ x3 ∧ x3 < 2147483648)) (h : x3 ≠ 0) (k : Ev X 176 35 [fx_f 56, .inr (.inl (y1)), fx_u, .inl (x3), .inr (.inl (y4)), fx_u, v6, fx_u] [] M r M') : Ev X 176 31 [fx_f 56, .inr (.inl (y1)), fx_u, .inl (x3), .inr (.inl (y4)), fx_u, v6, fx_u] [] M r M' := by
  refine Ev.run 1 fd_e176 (i' := 32) (ls' := [fx_f 56, .inr (.inl (y1)), fx_u, .inl (x3), .inr (.inl (y4)), fx_u, v6, fx_u]) (st' := [.inl (x3)]) (M1 := M) rfl ?_
  refine Ev.ifT fd_e176 rfl g (decide_eq_true h) ?_
  exact k
theorem r176_31F {X : fx_Sc} {M M' : fx_M} {r : Option fx_V} {x3 : Int} {v6 : fx_V} {y1 y4 : Int64} (g : (-2147483648 ≤ x3 ∧ x3 < 2147483648)) (h : x3 = 0) (k : Ev X 176 33 [fx_f 56, .inr (.inl (y1)), fx_u, .inl (x3), .inr (.inl (y4)), fx_u, v6, fx_u] [] M r M') : Ev X 176 31 [fx_f 56, .inr (.inl (y1)), fx_u, .inl (x3), .inr (.inl (y4)), fx_u, v6, fx_u] [] M r M' := by
  refine Ev.run 1 fd_e176 (i' := 32) (ls' := [fx_f 56, .inr (.inl (y1)), fx_u, .inl (x3), .inr (.inl (y4)), fx_u, v6, fx_u]) (st' := [.inl (x3)]) (M1 := M) rfl ?_
  refine Ev.ifF fd_e176 rfl g (decide_eq_false (not_not_intro h)) ?_
  exact k
theorem r176_33 {X : fx_Sc} {M : fx_M} {x3 : Int} {v6 : fx_V} {y1 y4 : Int64} : Ev X 176 33 [fx_f 56, .inr (.inl (y1)), fx_u, .inl (x3), .inr (.inl (y4)), fx_u, v6, fx_u] [] M (some (.inl ((-2)))) M := by
  refine Ev.run 1 fd_e176 (i' := 34) (ls' := [fx_f 56, .inr (.inl (y1)), fx_u, .inl (x3), .inr (.inl (y4)), fx_u, v6, fx_u]) (st' := [.inl ((-2))]) (M1 := M) rfl ?_
  exact Ev.ret1 fd_e176 rfl rfl
theorem r176_35T {X : fx_Sc} {M M' : fx_M} {r : Option fx_V} {x3 : Int} {v6 : fx_V} {y1 y4 : Int64} (g : (-2147483648 ≤ ((M 56 15) + x3) ∧ ((M 56 15) + x3) < 2147483648)) (h : ((M 56 15) + x3) ≤ 60) (k : Ev X 176 43 [fx_f 56, .inr (.inl (y1)), fx_u, .inl (x3), .inr (.inl (y4)), fx_u, v6, fx_u] [] M r M') : Ev X 176 35 [fx_f 56, .inr (.inl (y1)), fx_u, .inl (x3), .inr (.inl (y4)), fx_u, v6, fx_u] [] M r M' := by
  refine Ev.run 5 fd_e176 (i' := 40) (ls' := [fx_f 56, .inr (.inl (y1)), fx_u, .inl (x3), .inr (.inl (y4)), fx_u, v6, fx_u]) (st' := [.inl (60), .inl (((M 56 15) + x3))]) (M1 := M) rfl ?_
  refine Ev.icT fd_e176 rfl g (by decide) (decide_eq_true h) ?_
  exact k
theorem r176_35F {X : fx_Sc} {M M' : fx_M} {r : Option fx_V} {x3 : Int} {v6 : fx_V} {y1 y4 : Int64} (g : (-2147483648 ≤ ((M 56 15) + x3) ∧ ((M 56 15) + x3) < 2147483648)) (h : 60 < ((M 56 15) + x3)) (k : Ev X 176 41 [fx_f 56, .inr (.inl (y1)), fx_u, .inl (x3), .inr (.inl (y4)), fx_u, v6, fx_u] [] M r M') : Ev X 176 35 [fx_f 56, .inr (.inl (y1)), fx_u, .inl (x3), .inr (.inl (y4)), fx_u, v6, fx_u] [] M r M' := by
  refine Ev.run 5 fd_e176 (i' := 40) (ls' := [fx_f 56, .inr (.inl (y1)), fx_u, .inl (x3), .inr (.inl (y4)), fx_u, v6, fx_u]) (st' := [.inl (60), .inl (((M 56 15) + x3))]) (M1 := M) rfl ?_
  refine Ev.icF fd_e176 rfl g (by decide) (decide_eq_false (Int.not_le.mpr h)) ?_
  exact k
theorem r176_41 {X : fx_Sc} {M : fx_M} {x3 : Int} {v6 : fx_V} {y1 y4 : Int64} : Ev X 176 41 [fx_f 56, .inr (.inl (y1)), fx_u, .inl (x3), .inr (.inl (y4)), fx_u, v6, fx_u] [] M (some (.inl ((-4)))) M := by
  refine Ev.run 1 fd_e176 (i' := 42) (ls' := [fx_f 56, .inr (.inl (y1)), fx_u, .inl (x3), .inr (.inl (y4)), fx_u, v6, fx_u]) (st' := [.inl ((-4))]) (M1 := M) rfl ?_
  exact Ev.ret1 fd_e176 rfl rfl
theorem r176_43 {X : fx_Sc} {M M' : fx_M} {r : Option fx_V} {x3 : Int} {v6 : fx_V} {y1 y4 : Int64} (k : Ev X 176 47 [fx_f 56, .inr (.inl (y1)), fx_u, .inl (x3), .inr (.inl (y4)), fx_u, .inl ((x3 - 1)), fx_u] [] M r M') : Ev X 176 43 [fx_f 56, .inr (.inl (y1)), fx_u, .inl (x3), .inr (.inl (y4)), fx_u, v6, fx_u] [] M r M' := by
  refine Ev.run 4 fd_e176 (i' := 47) (ls' := [fx_f 56, .inr (.inl (y1)), fx_u, .inl (x3), .inr (.inl (y4)), fx_u, .inl ((x3 - 1)), fx_u]) (st' := []) (M1 := M) rfl ?_
  exact k
theorem r176_47T {X : fx_Sc} {M M' : fx_M} {r : Option fx_V} {x3 x6 : Int} {y1 y4 : Int64} (g : (-2147483648 ≤ x6 ∧ x6 < 2147483648)) (h : x6 < 0) (k : Ev X 176 71 [fx_f 56, .inr (.inl (y1)), fx_u, .inl (x3), .inr (.inl (y4)), fx_u, .inl (x6), fx_u] [] M r M') : Ev X 176 47 [fx_f 56, .inr (.inl (y1)), fx_u, .inl (x3), .inr (.inl (y4)), fx_u, .inl (x6), fx_u] [] M r M' := by
  refine Ev.run 1 fd_e176 (i' := 48) (ls' := [fx_f 56, .inr (.inl (y1)), fx_u, .inl (x3), .inr (.inl (y4)), fx_u, .inl (x6), fx_u]) (st' := [.inl (x6)]) (M1 := M) rfl ?_
  refine Ev.ifT fd_e176 rfl g (decide_eq_true h) ?_
  exact k
theorem r176_47F {X : fx_Sc} {M M' : fx_M} {r : Option fx_V} {x3 x6 : Int} {y1 y4 : Int64} (g : (-2147483648 ≤ x6 ∧ x6 < 2147483648)) (h : 0 ≤ x6) (k : Ev X 176 49 [fx_f 56, .inr (.inl (y1)), fx_u, .inl (x3), .inr (.inl (y4)), fx_u, .inl (x6), fx_u] [] M r M') : Ev X 176 47 [fx_f 56, .inr (.inl (y1)), fx_u, .inl (x3), .inr (.inl (y4)), fx_u, .inl (x6), fx_u] [] M r M' := by
  refine Ev.run 1 fd_e176 (i' := 48) (ls' := [fx_f 56, .inr (.inl (y1)), fx_u, .inl (x3), .inr (.inl (y4)), fx_u, .inl (x6), fx_u]) (st' := [.inl (x6)]) (M1 := M) rfl ?_
  refine Ev.ifF fd_e176 rfl g (decide_eq_false (Int.not_lt.mpr h)) ?_
  exact k
theorem r176_49 {X : fx_Sc} {M M' : fx_M} {r : Option fx_V} {x3 x6 : Int} {y1 y4 : Int64} (g : (0 ≤ (fx_i2c ((((y1).toUInt64 >>> ((Int32.ofInt (8 * x6)).toInt64.toUInt64 &&& Int64.toUInt64 63)).toInt64 &&& Int64.ofInt 255)).toInt32.toInt) ∧ (fx_i2c ((((y1).toUInt64 >>> ((Int32.ofInt (8 * x6)).toInt64.toUInt64 &&& Int64.toUInt64 63)).toInt64 &&& Int64.ofInt 255)).toInt32.toInt) < 65536) ∧ (0 ≤ (M 56 15) ∧ (M 56 15) < ((60 : Nat) : Int))) (k : Ev X 176 47 [fx_f 56, .inr (.inl (y1)), fx_u, .inl (x3), .inr (.inl (y4)), fx_u, .inl ((x6 + (-1))), fx_u] [] (fx_set (fx_set M 70 (fx_up (M 70) ((M 56 15)).toNat (fx_i2c ((((y1).toUInt64 >>> ((Int32.ofInt (8 * x6)).toInt64.toUInt64 &&& Int64.toUInt64 63)).toInt64 &&& Int64.ofInt 255)).toInt32.toInt))) 56 (fx_up ((fx_set M 70 (fx_up (M 70) ((M 56 15)).toNat (fx_i2c ((((y1).toUInt64 >>> ((Int32.ofInt (8 * x6)).toInt64.toUInt64 &&& Int64.toUInt64 63)).toInt64 &&& Int64.ofInt 255)).toInt32.toInt))) 56) 15 (((fx_set M 70 (fx_up (M 70) ((M 56 15)).toNat (fx_i2c ((((y1).toUInt64 >>> ((Int32.ofInt (8 * x6)).toInt64.toUInt64 &&& Int64.toUInt64 63)).toInt64 &&& Int64.ofInt 255)).toInt32.toInt))) 56 15) + 1))) r M') : Ev X 176 49 [fx_f 56, .inr (.inl (y1)), fx_u, .inl (x3), .inr (.inl (y4)), fx_u, .inl (x6), fx_u] [] M r M' := by
  refine Ev.run 13 fd_e176 (i' := 62) (ls' := [fx_f 56, .inr (.inl (y1)), fx_u, .inl (x3), .inr (.inl (y4)), fx_u, .inl (x6), fx_u]) (st' := [.inl ((fx_i2c ((((y1).toUInt64 >>> ((Int32.ofInt (8 * x6)).toInt64.toUInt64 &&& Int64.toUInt64 63)).toInt64 &&& Int64.ofInt 255)).toInt32.toInt)), .inl ((M 56 15)), fx_f 70]) (M1 := M) rfl ?_
  refine Ev.cast fd_e176 rfl rfl (by decide) g.2 g.1 ?_
  refine Ev.run 8 fd_e176 (i' := 47) (ls' := [fx_f 56, .inr (.inl (y1)), fx_u, .inl (x3), .inr (.inl (y4)), fx_u, .inl ((x6 + (-1))), fx_u]) (st' := []) (M1 := (fx_set (fx_set M 70 (fx_up (M 70) ((M 56 15)).toNat (fx_i2c ((((y1).toUInt64 >>> ((Int32.ofInt (8 * x6)).toInt64.toUInt64 &&& Int64.toUInt64 63)).toInt64 &&& Int64.ofInt 255)).toInt32.toInt))) 56 (fx_up ((fx_set M 70 (fx_up (M 70) ((M 56 15)).toNat (fx_i2c ((((y1).toUInt64 >>> ((Int32.ofInt (8 * x6)).toInt64.toUInt64 &&& Int64.toUInt64 63)).toInt64 &&& Int64.ofInt 255)).toInt32.toInt))) 56) 15 (((fx_set M 70 (fx_up (M 70) ((M 56 15)).toNat (fx_i2c ((((y1).toUInt64 >>> ((Int32.ofInt (8 * x6)).toInt64.toUInt64 &&& Int64.toUInt64 63)).toInt64 &&& Int64.ofInt 255)).toInt32.toInt))) 56 15) + 1)))) rfl ?_
  exact k
theorem r176_71 {X : fx_Sc} {M : fx_M} {x3 x6 : Int} {y1 y4 : Int64} : Ev X 176 71 [fx_f 56, .inr (.inl (y1)), fx_u, .inl (x3), .inr (.inl (y4)), fx_u, .inl (x6), fx_u] [] M (some (.inl ((M 56 15)))) M := by
  refine Ev.run 2 fd_e176 (i' := 73) (ls' := [fx_f 56, .inr (.inl (y1)), fx_u, .inl (x3), .inr (.inl (y4)), fx_u, .inl (x6), fx_u]) (st' := [.inl ((M 56 15))]) (M1 := M) rfl ?_
  exact Ev.ret1 fd_e176 rfl rfl
-- 177: FoldedStripsModel.wipe()I
theorem fd_e177 : fd_C 177 = fd_c177 := rfl
theorem r177_0 {X : fx_Sc} {M : fx_M} : Ev X 177 0 [fx_f 56, fx_u] [] M (some (.inl ((M 56 15)))) (fx_set M 56 (fx_up (M 56) 15 0)) := by
  refine Ev.run 7 fd_e177 (i' := 7) (ls' := [fx_f 56, .inl ((M 56 15))]) (st' := [.inl ((M 56 15))]) (M1 := (fx_set M 56 (fx_up (M 56) 15 0))) rfl ?_
  exact Ev.ret1 fd_e177 rfl rfl
-- 178: FoldedStripsModel.fault()I
theorem fd_e178 : fd_C 178 = fd_c178 := rfl
theorem r178_0 {X : fx_Sc} {M M' : fx_M} {r : Option fx_V} {z : Int} {M1 : fx_M} (hc : Ev X 138 0 [fx_f 56, fx_u] [] M (some (.inl z)) M1) (k : Ev X 178 2 [fx_f 56, fx_u] [.inl (z)] M1 r M') : Ev X 178 0 [fx_f 56, fx_u] [] M r M' := by
  refine Ev.run 1 fd_e178 (i' := 1) (ls' := [fx_f 56, fx_u]) (st' := [fx_f 56]) (M1 := M) rfl ?_
  refine Ev.callV (vs := [fx_f 56]) (rest := []) (r1 := (some (.inl z))) fd_e178 rfl rfl rfl (Nat.le_of_ble_eq_true rfl) (Nat.le_of_ble_eq_true rfl) rfl hc ?_
  exact k
theorem r178_2T {X : fx_Sc} {M M' : fx_M} {r : Option fx_V} {s0 : Int} (g : (-2147483648 ≤ s0 ∧ s0 < 2147483648)) (h : 0 ≤ s0) (k : Ev X 178 7 [fx_f 56, .inl (s0)] [] M r M') : Ev X 178 2 [fx_f 56, fx_u] [.inl (s0)] M r M' := by
  refine Ev.run 2 fd_e178 (i' := 4) (ls' := [fx_f 56, .inl (s0)]) (st' := [.inl (s0)]) (M1 := M) rfl ?_
  refine Ev.ifT fd_e178 rfl g (decide_eq_true h) ?_
  exact k
theorem r178_2F {X : fx_Sc} {M M' : fx_M} {r : Option fx_V} {s0 : Int} (g : (-2147483648 ≤ s0 ∧ s0 < 2147483648)) (h : s0 < 0) (k : Ev X 178 5 [fx_f 56, .inl (s0)] [] M r M') : Ev X 178 2 [fx_f 56, fx_u] [.inl (s0)] M r M' := by
  refine Ev.run 2 fd_e178 (i' := 4) (ls' := [fx_f 56, .inl (s0)]) (st' := [.inl (s0)]) (M1 := M) rfl ?_
  refine Ev.ifF fd_e178 rfl g (decide_eq_false (Int.not_le.mpr h)) ?_
  exact k
theorem r178_5 {X : fx_Sc} {M : fx_M} {x1 : Int} : Ev X 178 5 [fx_f 56, .inl (x1)] [] M (some (.inl ((-6)))) M := by
  refine Ev.run 2 fd_e178 (i' := 8) (ls' := [fx_f 56, .inl (x1)]) (st' := [.inl ((-6))]) (M1 := M) rfl ?_
  exact Ev.ret1 fd_e178 rfl rfl
theorem r178_7 {X : fx_Sc} {M : fx_M} {x1 : Int} : Ev X 178 7 [fx_f 56, .inl (x1)] [] M (some (.inl (x1))) M := by
  refine Ev.run 1 fd_e178 (i' := 8) (ls' := [fx_f 56, .inl (x1)]) (st' := [.inl (x1)]) (M1 := M) rfl ?_
  exact Ev.ret1 fd_e178 rfl rfl
-- 179: FoldedStripsModel.undo()I
theorem fd_e179 : fd_C 179 = fd_c179 := rfl
theorem r179_0T {X : fx_Sc} {M M' : fx_M} {r : Option fx_V} (g : (-2147483648 ≤ (M 56 16) ∧ (M 56 16) < 2147483648)) (h : (M 56 16) ≠ 0) (k : Ev X 179 5 [fx_f 56, fx_u] [] M r M') : Ev X 179 0 [fx_f 56, fx_u] [] M r M' := by
  refine Ev.run 2 fd_e179 (i' := 2) (ls' := [fx_f 56, fx_u]) (st' := [.inl ((M 56 16))]) (M1 := M) rfl ?_
  refine Ev.ifT fd_e179 rfl g (decide_eq_true h) ?_
  exact k
theorem r179_0F {X : fx_Sc} {M M' : fx_M} {r : Option fx_V} (g : (-2147483648 ≤ (M 56 16) ∧ (M 56 16) < 2147483648)) (h : (M 56 16) = 0) (k : Ev X 179 3 [fx_f 56, fx_u] [] M r M') : Ev X 179 0 [fx_f 56, fx_u] [] M r M' := by
  refine Ev.run 2 fd_e179 (i' := 2) (ls' := [fx_f 56, fx_u]) (st' := [.inl ((M 56 16))]) (M1 := M) rfl ?_
  refine Ev.ifF fd_e179 rfl g (decide_eq_false (not_not_intro h)) ?_
  exact k
theorem r179_3 {X : fx_Sc} {M : fx_M} : Ev X 179 3 [fx_f 56, fx_u] [] M (some (.inl ((-5)))) M := by
  refine Ev.run 1 fd_e179 (i' := 4) (ls' := [fx_f 56, fx_u]) (st' := [.inl ((-5))]) (M1 := M) rfl ?_
  exact Ev.ret1 fd_e179 rfl rfl
theorem r179_5 {X : fx_Sc} {M M' : fx_M} {r : Option fx_V} (k : Ev X 179 13 [fx_f 56, .inl (0)] [] (fx_set M 56 (fx_up (M 56) 16 ((M 56 16) - 1))) r M') : Ev X 179 5 [fx_f 56, fx_u] [] M r M' := by
  refine Ev.run 8 fd_e179 (i' := 13) (ls' := [fx_f 56, .inl (0)]) (st' := []) (M1 := (fx_set M 56 (fx_up (M 56) 16 ((M 56 16) - 1)))) rfl ?_
  exact k
theorem r179_13T {X : fx_Sc} {M M' : fx_M} {r : Option fx_V} {x1 : Int} (g : (-2147483648 ≤ x1 ∧ x1 < 2147483648)) (h : 150 ≤ x1) (k : Ev X 179 31 [fx_f 56, .inl (x1)] [] M r M') : Ev X 179 13 [fx_f 56, .inl (x1)] [] M r M' := by
  refine Ev.run 2 fd_e179 (i' := 15) (ls' := [fx_f 56, .inl (x1)]) (st' := [.inl (150), .inl (x1)]) (M1 := M) rfl ?_
  refine Ev.icT fd_e179 rfl g (by decide) (decide_eq_true h) ?_
  exact k
theorem r179_13F {X : fx_Sc} {M M' : fx_M} {r : Option fx_V} {x1 : Int} (g : (-2147483648 ≤ x1 ∧ x1 < 2147483648)) (h : x1 < 150) (k : Ev X 179 16 [fx_f 56, .inl (x1)] [] M r M') : Ev X 179 13 [fx_f 56, .inl (x1)] [] M r M' := by
  refine Ev.run 2 fd_e179 (i' := 15) (ls' := [fx_f 56, .inl (x1)]) (st' := [.inl (150), .inl (x1)]) (M1 := M) rfl ?_
  refine Ev.icF fd_e179 rfl g (by decide) (decide_eq_false (Int.not_le.mpr h)) ?_
  exact k
theorem r179_16 {X : fx_Sc} {M M' : fx_M} {r : Option fx_V} {x1 : Int} (g : (0 ≤ ((150 * (M 56 16)) + x1) ∧ ((150 * (M 56 16)) + x1) < ((900 : Nat) : Int)) ∧ (0 ≤ x1 ∧ x1 < ((150 : Nat) : Int))) (k : Ev X 179 13 [fx_f 56, .inl ((x1 + 1))] [] (fx_set M 57 (fx_up (M 57) (x1).toNat (M 60 (((150 * (M 56 16)) + x1)).toNat))) r M') : Ev X 179 16 [fx_f 56, .inl (x1)] [] M r M' := by
  refine Ev.run 11 fd_e179 (i' := 27) (ls' := [fx_f 56, .inl (x1)]) (st' := [.inl (((150 * (M 56 16)) + x1)), fx_f 60, .inl (x1), fx_f 57]) (M1 := M) rfl ?_
  refine Ev.iald fd_e179 rfl rfl (by decide) g.1 ?_
  refine Ev.iast fd_e179 rfl rfl (by decide) g.2 ?_
  refine Ev.run 2 fd_e179 (i' := 13) (ls' := [fx_f 56, .inl ((x1 + 1))]) (st' := []) (M1 := (fx_set M 57 (fx_up (M 57) (x1).toNat (M 60 (((150 * (M 56 16)) + x1)).toNat)))) rfl ?_
  exact k
theorem r179_31 {X : fx_Sc} {M : fx_M} {x1 : Int} : Ev X 179 31 [fx_f 56, .inl (x1)] [] M (some (.inl ((M 56 16)))) M := by
  refine Ev.run 2 fd_e179 (i' := 33) (ls' := [fx_f 56, .inl (x1)]) (st' := [.inl ((M 56 16))]) (M1 := M) rfl ?_
  exact Ev.ret1 fd_e179 rfl rfl
-- 180: FoldedStripsModel.save(I)I
theorem fd_e180 : fd_C 180 = fd_c180 := rfl
theorem r180_0 {X : fx_Sc} {M M' : fx_M} {r : Option fx_V} {x1 z : Int} {M1 : fx_M} (hc : Ev X 117 0 [.inl (x1), .inl (0), .inl (1)] [] M (some (.inl z)) M1) (k : Ev X 180 4 [fx_f 56, .inl (x1), fx_u] [.inl (z)] M1 r M') : Ev X 180 0 [fx_f 56, .inl (x1), fx_u] [] M r M' := by
  refine Ev.run 3 fd_e180 (i' := 3) (ls' := [fx_f 56, .inl (x1), fx_u]) (st' := [.inl (1), .inl (0), .inl (x1)]) (M1 := M) rfl ?_
  refine Ev.callS (vs := [.inl (x1), .inl (0), .inl (1)]) (rest := []) (r1 := (some (.inl z))) fd_e180 rfl rfl rfl (Nat.le_of_ble_eq_true rfl) (Nat.le_of_ble_eq_true rfl) hc ?_
  exact k
theorem r180_4T {X : fx_Sc} {M M' : fx_M} {r : Option fx_V} {x1 s0 : Int} (g : (-2147483648 ≤ s0 ∧ s0 < 2147483648)) (h : s0 ≠ 0) (k : Ev X 180 7 [fx_f 56, .inl (x1), fx_u] [] M r M') : Ev X 180 4 [fx_f 56, .inl (x1), fx_u] [.inl (s0)] M r M' := by
  refine Ev.ifT fd_e180 rfl g (decide_eq_true h) ?_
  exact k
theorem r180_4F {X : fx_Sc} {M M' : fx_M} {r : Option fx_V} {x1 s0 : Int} (g : (-2147483648 ≤ s0 ∧ s0 < 2147483648)) (h : s0 = 0) (k : Ev X 180 5 [fx_f 56, .inl (x1), fx_u] [] M r M') : Ev X 180 4 [fx_f 56, .inl (x1), fx_u] [.inl (s0)] M r M' := by
  refine Ev.ifF fd_e180 rfl g (decide_eq_false (not_not_intro h)) ?_
  exact k
theorem r180_5 {X : fx_Sc} {M : fx_M} {x1 : Int} : Ev X 180 5 [fx_f 56, .inl (x1), fx_u] [] M (some (.inl ((-2)))) M := by
  refine Ev.run 1 fd_e180 (i' := 6) (ls' := [fx_f 56, .inl (x1), fx_u]) (st' := [.inl ((-2))]) (M1 := M) rfl ?_
  exact Ev.ret1 fd_e180 rfl rfl
theorem r180_7 {X : fx_Sc} {M M' : fx_M} {r : Option fx_V} {x1 : Int} (k : Ev X 180 9 [fx_f 56, .inl (x1), .inl (0)] [] M r M') : Ev X 180 7 [fx_f 56, .inl (x1), fx_u] [] M r M' := by
  refine Ev.run 2 fd_e180 (i' := 9) (ls' := [fx_f 56, .inl (x1), .inl (0)]) (st' := []) (M1 := M) rfl ?_
  exact k
theorem r180_9T {X : fx_Sc} {M M' : fx_M} {r : Option fx_V} {x1 x2 : Int} (g : (-2147483648 ≤ x2 ∧ x2 < 2147483648)) (h : 150 ≤ x2) (k : Ev X 180 26 [fx_f 56, .inl (x1), .inl (x2)] [] M r M') : Ev X 180 9 [fx_f 56, .inl (x1), .inl (x2)] [] M r M' := by
  refine Ev.run 2 fd_e180 (i' := 11) (ls' := [fx_f 56, .inl (x1), .inl (x2)]) (st' := [.inl (150), .inl (x2)]) (M1 := M) rfl ?_
  refine Ev.icT fd_e180 rfl g (by decide) (decide_eq_true h) ?_
  exact k
theorem r180_9F {X : fx_Sc} {M M' : fx_M} {r : Option fx_V} {x1 x2 : Int} (g : (-2147483648 ≤ x2 ∧ x2 < 2147483648)) (h : x2 < 150) (k : Ev X 180 12 [fx_f 56, .inl (x1), .inl (x2)] [] M r M') : Ev X 180 9 [fx_f 56, .inl (x1), .inl (x2)] [] M r M' := by
  refine Ev.run 2 fd_e180 (i' := 11) (ls' := [fx_f 56, .inl (x1), .inl (x2)]) (st' := [.inl (150), .inl (x2)]) (M1 := M) rfl ?_
  refine Ev.icF fd_e180 rfl g (by decide) (decide_eq_false (Int.not_le.mpr h)) ?_
  exact k
theorem r180_12 {X : fx_Sc} {M M' : fx_M} {r : Option fx_V} {x1 x2 : Int} (g : (0 ≤ x2 ∧ x2 < ((150 : Nat) : Int)) ∧ (0 ≤ ((150 * x1) + x2) ∧ ((150 * x1) + x2) < ((300 : Nat) : Int))) (k : Ev X 180 9 [fx_f 56, .inl (x1), .inl ((x2 + 1))] [] (fx_set M 61 (fx_up (M 61) (((150 * x1) + x2)).toNat (M 57 (x2).toNat))) r M') : Ev X 180 12 [fx_f 56, .inl (x1), .inl (x2)] [] M r M' := by
  refine Ev.run 10 fd_e180 (i' := 22) (ls' := [fx_f 56, .inl (x1), .inl (x2)]) (st' := [.inl (x2), fx_f 57, .inl (((150 * x1) + x2)), fx_f 61]) (M1 := M) rfl ?_
  refine Ev.iald fd_e180 rfl rfl (by decide) g.1 ?_
  refine Ev.iast fd_e180 rfl rfl (by decide) g.2 ?_
  refine Ev.run 2 fd_e180 (i' := 9) (ls' := [fx_f 56, .inl (x1), .inl ((x2 + 1))]) (st' := []) (M1 := (fx_set M 61 (fx_up (M 61) (((150 * x1) + x2)).toNat (M 57 (x2).toNat)))) rfl ?_
  exact k
theorem r180_26 {X : fx_Sc} {M M' : fx_M} {r : Option fx_V} {x1 x2 z : Int} {M1 : fx_M} (g : (0 ≤ x1 ∧ x1 < ((2 : Nat) : Int))) (hc : Ev X 169 0 [fx_f 56, .inl (0), fx_u, fx_u, fx_u] [] (fx_set M 62 (fx_up (M 62) (x1).toNat 1)) (some (.inl z)) M1) (k : Ev X 180 34 [fx_f 56, .inl (x1), .inl (x2)] [.inl (z)] M1 r M') : Ev X 180 26 [fx_f 56, .inl (x1), .inl (x2)] [] M r M' := by
  refine Ev.run 4 fd_e180 (i' := 30) (ls' := [fx_f 56, .inl (x1), .inl (x2)]) (st' := [.inl (1), .inl (x1), fx_f 62]) (M1 := M) rfl ?_
  refine Ev.bast fd_e180 rfl rfl (by decide) g (by decide) ?_
  refine Ev.run 2 fd_e180 (i' := 33) (ls' := [fx_f 56, .inl (x1), .inl (x2)]) (st' := [.inl (0), fx_f 56]) (M1 := (fx_set M 62 (fx_up (M 62) (x1).toNat 1))) rfl ?_
  refine Ev.callV (vs := [fx_f 56, .inl (0)]) (rest := []) (r1 := (some (.inl z))) fd_e180 rfl rfl rfl (Nat.le_of_ble_eq_true rfl) (Nat.le_of_ble_eq_true rfl) rfl hc ?_
  exact k
theorem r180_34 {X : fx_Sc} {M : fx_M} {x1 x2 s0 : Int} : Ev X 180 34 [fx_f 56, .inl (x1), .inl (x2)] [.inl (s0)] M (some (.inl (s0))) M := by
  exact Ev.ret1 fd_e180 rfl rfl
-- 181: FoldedStripsModel.restore(I)I
theorem fd_e181 : fd_C 181 = fd_c181 := rfl
theorem r181_0 {X : fx_Sc} {M M' : fx_M} {r : Option fx_V} {x1 z : Int} {M1 : fx_M} (hc : Ev X 117 0 [.inl (x1), .inl (0), .inl (1)] [] M (some (.inl z)) M1) (k : Ev X 181 4 [fx_f 56, .inl (x1), fx_u] [.inl (z)] M1 r M') : Ev X 181 0 [fx_f 56, .inl (x1), fx_u] [] M r M' := by
  refine Ev.run 3 fd_e181 (i' := 3) (ls' := [fx_f 56, .inl (x1), fx_u]) (st' := [.inl (1), .inl (0), .inl (x1)]) (M1 := M) rfl ?_
  refine Ev.callS (vs := [.inl (x1), .inl (0), .inl (1)]) (rest := []) (r1 := (some (.inl z))) fd_e181 rfl rfl rfl (Nat.le_of_ble_eq_true rfl) (Nat.le_of_ble_eq_true rfl) hc ?_
  exact k
theorem r181_4T {X : fx_Sc} {M M' : fx_M} {r : Option fx_V} {x1 s0 : Int} (g : (-2147483648 ≤ s0 ∧ s0 < 2147483648)) (h : s0 ≠ 0) (k : Ev X 181 7 [fx_f 56, .inl (x1), fx_u] [] M r M') : Ev X 181 4 [fx_f 56, .inl (x1), fx_u] [.inl (s0)] M r M' := by
  refine Ev.ifT fd_e181 rfl g (decide_eq_true h) ?_
  exact k
theorem r181_4F {X : fx_Sc} {M M' : fx_M} {r : Option fx_V} {x1 s0 : Int} (g : (-2147483648 ≤ s0 ∧ s0 < 2147483648)) (h : s0 = 0) (k : Ev X 181 5 [fx_f 56, .inl (x1), fx_u] [] M r M') : Ev X 181 4 [fx_f 56, .inl (x1), fx_u] [.inl (s0)] M r M' := by
  refine Ev.ifF fd_e181 rfl g (decide_eq_false (not_not_intro h)) ?_
  exact k
theorem r181_5 {X : fx_Sc} {M : fx_M} {x1 : Int} : Ev X 181 5 [fx_f 56, .inl (x1), fx_u] [] M (some (.inl ((-2)))) M := by
  refine Ev.run 1 fd_e181 (i' := 6) (ls' := [fx_f 56, .inl (x1), fx_u]) (st' := [.inl ((-2))]) (M1 := M) rfl ?_
  exact Ev.ret1 fd_e181 rfl rfl
theorem r181_7T {X : fx_Sc} {M M' : fx_M} {r : Option fx_V} {x1 : Int} (g : (0 ≤ x1 ∧ x1 < ((2 : Nat) : Int)) ∧ (-2147483648 ≤ (M 62 (x1).toNat) ∧ (M 62 (x1).toNat) < 2147483648)) (h : (M 62 (x1).toNat) ≠ 0) (k : Ev X 181 14 [fx_f 56, .inl (x1), fx_u] [] M r M') : Ev X 181 7 [fx_f 56, .inl (x1), fx_u] [] M r M' := by
  refine Ev.run 3 fd_e181 (i' := 10) (ls' := [fx_f 56, .inl (x1), fx_u]) (st' := [.inl (x1), fx_f 62]) (M1 := M) rfl ?_
  refine Ev.bald fd_e181 rfl rfl (by decide) g.1 ?_
  refine Ev.ifT fd_e181 rfl g.2 (decide_eq_true h) ?_
  exact k
theorem r181_7F {X : fx_Sc} {M M' : fx_M} {r : Option fx_V} {x1 : Int} (g : (0 ≤ x1 ∧ x1 < ((2 : Nat) : Int)) ∧ (-2147483648 ≤ (M 62 (x1).toNat) ∧ (M 62 (x1).toNat) < 2147483648)) (h : (M 62 (x1).toNat) = 0) (k : Ev X 181 12 [fx_f 56, .inl (x1), fx_u] [] M r M') : Ev X 181 7 [fx_f 56, .inl (x1), fx_u] [] M r M' := by
  refine Ev.run 3 fd_e181 (i' := 10) (ls' := [fx_f 56, .inl (x1), fx_u]) (st' := [.inl (x1), fx_f 62]) (M1 := M) rfl ?_
  refine Ev.bald fd_e181 rfl rfl (by decide) g.1 ?_
  refine Ev.ifF fd_e181 rfl g.2 (decide_eq_false (not_not_intro h)) ?_
  exact k
theorem r181_12 {X : fx_Sc} {M : fx_M} {x1 : Int} : Ev X 181 12 [fx_f 56, .inl (x1), fx_u] [] M (some (.inl ((-5)))) M := by
  refine Ev.run 1 fd_e181 (i' := 13) (ls' := [fx_f 56, .inl (x1), fx_u]) (st' := [.inl ((-5))]) (M1 := M) rfl ?_
  exact Ev.ret1 fd_e181 rfl rfl
theorem r181_14 {X : fx_Sc} {M M' : fx_M} {r : Option fx_V} {x1 : Int} {M1 : fx_M} (hc : Ev X 119 0 [fx_f 56, fx_u] [] M none M1) (k : Ev X 181 16 [fx_f 56, .inl (x1), fx_u] [] M1 r M') : Ev X 181 14 [fx_f 56, .inl (x1), fx_u] [] M r M' := by
  refine Ev.run 1 fd_e181 (i' := 15) (ls' := [fx_f 56, .inl (x1), fx_u]) (st' := [fx_f 56]) (M1 := M) rfl ?_
  refine Ev.callV (vs := [fx_f 56]) (rest := []) (r1 := none) fd_e181 rfl rfl rfl (Nat.le_of_ble_eq_true rfl) (Nat.le_of_ble_eq_true rfl) rfl hc ?_
  exact k
theorem r181_16 {X : fx_Sc} {M M' : fx_M} {r : Option fx_V} {x1 : Int} (k : Ev X 181 18 [fx_f 56, .inl (x1), .inl (0)] [] M r M') : Ev X 181 16 [fx_f 56, .inl (x1), fx_u] [] M r M' := by
  refine Ev.run 2 fd_e181 (i' := 18) (ls' := [fx_f 56, .inl (x1), .inl (0)]) (st' := []) (M1 := M) rfl ?_
  exact k
theorem r181_18T {X : fx_Sc} {M M' : fx_M} {r : Option fx_V} {x1 x2 : Int} (g : (-2147483648 ≤ x2 ∧ x2 < 2147483648)) (h : 150 ≤ x2) (k : Ev X 181 35 [fx_f 56, .inl (x1), .inl (x2)] [] M r M') : Ev X 181 18 [fx_f 56, .inl (x1), .inl (x2)] [] M r M' := by
  refine Ev.run 2 fd_e181 (i' := 20) (ls' := [fx_f 56, .inl (x1), .inl (x2)]) (st' := [.inl (150), .inl (x2)]) (M1 := M) rfl ?_
  refine Ev.icT fd_e181 rfl g (by decide) (decide_eq_true h) ?_
  exact k
theorem r181_18F {X : fx_Sc} {M M' : fx_M} {r : Option fx_V} {x1 x2 : Int} (g : (-2147483648 ≤ x2 ∧ x2 < 2147483648)) (h : x2 < 150) (k : Ev X 181 21 [fx_f 56, .inl (x1), .inl (x2)] [] M r M') : Ev X 181 18 [fx_f 56, .inl (x1), .inl (x2)] [] M r M' := by
  refine Ev.run 2 fd_e181 (i' := 20) (ls' := [fx_f 56, .inl (x1), .inl (x2)]) (st' := [.inl (150), .inl (x2)]) (M1 := M) rfl ?_
  refine Ev.icF fd_e181 rfl g (by decide) (decide_eq_false (Int.not_le.mpr h)) ?_
  exact k
theorem r181_21 {X : fx_Sc} {M M' : fx_M} {r : Option fx_V} {x1 x2 : Int} (g : (0 ≤ ((150 * x1) + x2) ∧ ((150 * x1) + x2) < ((300 : Nat) : Int)) ∧ (0 ≤ x2 ∧ x2 < ((150 : Nat) : Int))) (k : Ev X 181 18 [fx_f 56, .inl (x1), .inl ((x2 + 1))] [] (fx_set M 57 (fx_up (M 57) (x2).toNat (M 61 (((150 * x1) + x2)).toNat))) r M') : Ev X 181 21 [fx_f 56, .inl (x1), .inl (x2)] [] M r M' := by
  refine Ev.run 10 fd_e181 (i' := 31) (ls' := [fx_f 56, .inl (x1), .inl (x2)]) (st' := [.inl (((150 * x1) + x2)), fx_f 61, .inl (x2), fx_f 57]) (M1 := M) rfl ?_
  refine Ev.iald fd_e181 rfl rfl (by decide) g.1 ?_
  refine Ev.iast fd_e181 rfl rfl (by decide) g.2 ?_
  refine Ev.run 2 fd_e181 (i' := 18) (ls' := [fx_f 56, .inl (x1), .inl ((x2 + 1))]) (st' := []) (M1 := (fx_set M 57 (fx_up (M 57) (x2).toNat (M 61 (((150 * x1) + x2)).toNat)))) rfl ?_
  exact k
theorem r181_35 {X : fx_Sc} {M M' : fx_M} {r : Option fx_V} {x1 x2 z : Int} {M1 : fx_M} (hc : Ev X 169 0 [fx_f 56, .inl (0), fx_u, fx_u, fx_u] [] M (some (.inl z)) M1) (k : Ev X 181 38 [fx_f 56, .inl (x1), .inl (x2)] [.inl (z)] M1 r M') : Ev X 181 35 [fx_f 56, .inl (x1), .inl (x2)] [] M r M' := by
  refine Ev.run 2 fd_e181 (i' := 37) (ls' := [fx_f 56, .inl (x1), .inl (x2)]) (st' := [.inl (0), fx_f 56]) (M1 := M) rfl ?_
  refine Ev.callV (vs := [fx_f 56, .inl (0)]) (rest := []) (r1 := (some (.inl z))) fd_e181 rfl rfl rfl (Nat.le_of_ble_eq_true rfl) (Nat.le_of_ble_eq_true rfl) rfl hc ?_
  exact k
theorem r181_38 {X : fx_Sc} {M : fx_M} {x1 x2 s0 : Int} : Ev X 181 38 [fx_f 56, .inl (x1), .inl (x2)] [.inl (s0)] M (some (.inl (s0))) M := by
  exact Ev.ret1 fd_e181 rfl rfl
-- 190: FoldedStripsModel.<init>()V
theorem fd_e190 : fd_C 190 = fd_c190 := rfl
theorem r190_0 {X : fx_Sc} {M M' : fx_M} {r : Option fx_V} (k : Ev X 190 2 [fx_f 56, .inl (0)] [] M r M') : Ev X 190 0 [fx_f 56, fx_u] [] M r M' := by
  refine Ev.run 2 fd_e190 (i' := 2) (ls' := [fx_f 56, .inl (0)]) (st' := []) (M1 := M) rfl ?_
  exact k
theorem r190_2T {X : fx_Sc} {M M' : fx_M} {r : Option fx_V} {x1 : Int} (g : (-2147483648 ≤ x1 ∧ x1 < 2147483648)) (h : 6 ≤ x1) (k : Ev X 190 14 [fx_f 56, .inl (x1)] [] M r M') : Ev X 190 2 [fx_f 56, .inl (x1)] [] M r M' := by
  refine Ev.run 2 fd_e190 (i' := 4) (ls' := [fx_f 56, .inl (x1)]) (st' := [.inl (6), .inl (x1)]) (M1 := M) rfl ?_
  refine Ev.icT fd_e190 rfl g (by decide) (decide_eq_true h) ?_
  exact k
theorem r190_2F {X : fx_Sc} {M M' : fx_M} {r : Option fx_V} {x1 : Int} (g : (-2147483648 ≤ x1 ∧ x1 < 2147483648)) (h : x1 < 6) (k : Ev X 190 5 [fx_f 56, .inl (x1)] [] M r M') : Ev X 190 2 [fx_f 56, .inl (x1)] [] M r M' := by
  refine Ev.run 2 fd_e190 (i' := 4) (ls' := [fx_f 56, .inl (x1)]) (st' := [.inl (6), .inl (x1)]) (M1 := M) rfl ?_
  refine Ev.icF fd_e190 rfl g (by decide) (decide_eq_false (Int.not_le.mpr h)) ?_
  exact k
theorem r190_5 {X : fx_Sc} {M M' : fx_M} {r : Option fx_V} {x1 : Int} (g : (0 ≤ (144 + x1) ∧ (144 + x1) < ((150 : Nat) : Int))) (k : Ev X 190 2 [fx_f 56, .inl ((x1 + 1))] [] (fx_set M 57 (fx_up (M 57) ((144 + x1)).toNat x1)) r M') : Ev X 190 5 [fx_f 56, .inl (x1)] [] M r M' := by
  refine Ev.run 6 fd_e190 (i' := 11) (ls' := [fx_f 56, .inl (x1)]) (st' := [.inl (x1), .inl ((144 + x1)), fx_f 57]) (M1 := M) rfl ?_
  refine Ev.iast fd_e190 rfl rfl (by decide) g ?_
  refine Ev.run 2 fd_e190 (i' := 2) (ls' := [fx_f 56, .inl ((x1 + 1))]) (st' := []) (M1 := (fx_set M 57 (fx_up (M 57) ((144 + x1)).toNat x1))) rfl ?_
  exact k
theorem r190_14 {X : fx_Sc} {M : fx_M} {x1 : Int} : Ev X 190 14 [fx_f 56, .inl (x1)] [] M none M := by
  exact Ev.retv fd_e190 rfl rfl

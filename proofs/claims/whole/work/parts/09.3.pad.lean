-- 58: FoldedStrips$Pad.firstFault()I
theorem fd_e58 : fd_C 58 = fd_c58 := rfl
theorem r58_0 {X : fx_Sc} {M M' : fx_M} {r : Option fx_V} (k : Ev X 58 4 [fx_f 17, .inl (0), .inl (0)] [] M r M') : Ev X 58 0 [fx_f 17, fx_u, fx_u] [] M r M' := by
  refine Ev.run 4 fd_e58 (i' := 4) (ls' := [fx_f 17, .inl (0), .inl (0)]) (st' := []) (M1 := M) rfl ?_
  exact k
theorem r58_4T {X : fx_Sc} {M M' : fx_M} {r : Option fx_V} {x1 x2 : Int} (g : (-2147483648 ≤ x2 ∧ x2 < 2147483648) ∧ (-2147483648 ≤ (M 17 1) ∧ (M 17 1) < 2147483648)) (h : (M 17 1) ≤ x2) (k : Ev X 58 40 [fx_f 17, .inl (x1), .inl (x2)] [] M r M') : Ev X 58 4 [fx_f 17, .inl (x1), .inl (x2)] [] M r M' := by
  refine Ev.run 3 fd_e58 (i' := 7) (ls' := [fx_f 17, .inl (x1), .inl (x2)]) (st' := [.inl ((M 17 1)), .inl (x2)]) (M1 := M) rfl ?_
  refine Ev.icT fd_e58 rfl g.1 g.2 (decide_eq_true h) ?_
  exact k
theorem r58_4F {X : fx_Sc} {M M' : fx_M} {r : Option fx_V} {x1 x2 : Int} (g : (-2147483648 ≤ x2 ∧ x2 < 2147483648) ∧ (-2147483648 ≤ (M 17 1) ∧ (M 17 1) < 2147483648)) (h : x2 < (M 17 1)) (k : Ev X 58 8 [fx_f 17, .inl (x1), .inl (x2)] [] M r M') : Ev X 58 4 [fx_f 17, .inl (x1), .inl (x2)] [] M r M' := by
  refine Ev.run 3 fd_e58 (i' := 7) (ls' := [fx_f 17, .inl (x1), .inl (x2)]) (st' := [.inl ((M 17 1)), .inl (x2)]) (M1 := M) rfl ?_
  refine Ev.icF fd_e58 rfl g.1 g.2 (decide_eq_false (Int.not_le.mpr h)) ?_
  exact k
theorem r58_8 {X : fx_Sc} {M M' : fx_M} {r : Option fx_V} {x1 x2 z : Int} {M1 : fx_M} (hc : Ev X 59 0 [fx_f 17, .inl (x2), .inl (x1)] [] M (some (.inl z)) M1) (k : Ev X 58 12 [fx_f 17, .inl (x1), .inl (x2)] [.inl (z)] M1 r M') : Ev X 58 8 [fx_f 17, .inl (x1), .inl (x2)] [] M r M' := by
  refine Ev.run 3 fd_e58 (i' := 11) (ls' := [fx_f 17, .inl (x1), .inl (x2)]) (st' := [.inl (x1), .inl (x2), fx_f 17]) (M1 := M) rfl ?_
  refine Ev.callV (vs := [fx_f 17, .inl (x2), .inl (x1)]) (rest := []) (r1 := (some (.inl z))) fd_e58 rfl rfl rfl (Nat.le_of_ble_eq_true rfl) (Nat.le_of_ble_eq_true rfl) rfl hc ?_
  exact k
theorem r58_12T {X : fx_Sc} {M M' : fx_M} {r : Option fx_V} {x1 x2 s0 : Int} (g : (-2147483648 ≤ s0 ∧ s0 < 2147483648)) (h : s0 ≠ 0) (k : Ev X 58 15 [fx_f 17, .inl (x1), .inl (x2)] [] M r M') : Ev X 58 12 [fx_f 17, .inl (x1), .inl (x2)] [.inl (s0)] M r M' := by
  refine Ev.ifT fd_e58 rfl g (decide_eq_true h) ?_
  exact k
theorem r58_12F {X : fx_Sc} {M M' : fx_M} {r : Option fx_V} {x1 x2 s0 : Int} (g : (-2147483648 ≤ s0 ∧ s0 < 2147483648)) (h : s0 = 0) (k : Ev X 58 13 [fx_f 17, .inl (x1), .inl (x2)] [] M r M') : Ev X 58 12 [fx_f 17, .inl (x1), .inl (x2)] [.inl (s0)] M r M' := by
  refine Ev.ifF fd_e58 rfl g (decide_eq_false (not_not_intro h)) ?_
  exact k
theorem r58_13 {X : fx_Sc} {M : fx_M} {x1 x2 : Int} : Ev X 58 13 [fx_f 17, .inl (x1), .inl (x2)] [] M (some (.inl (x2))) M := by
  refine Ev.run 1 fd_e58 (i' := 14) (ls' := [fx_f 17, .inl (x1), .inl (x2)]) (st' := [.inl (x2)]) (M1 := M) rfl ?_
  exact Ev.ret1 fd_e58 rfl rfl
theorem r58_15T {X : fx_Sc} {M M' : fx_M} {r : Option fx_V} {x1 x2 : Int} (g : (-2147483648 ≤ (fx_rem x2 4) ∧ (fx_rem x2 4) < 2147483648)) (h : (fx_rem x2 4) ≠ 2) (k : Ev X 58 38 [fx_f 17, .inl (x1), .inl (x2)] [] M r M') : Ev X 58 15 [fx_f 17, .inl (x1), .inl (x2)] [] M r M' := by
  refine Ev.run 2 fd_e58 (i' := 17) (ls' := [fx_f 17, .inl (x1), .inl (x2)]) (st' := [.inl (4), .inl (x2)]) (M1 := M) rfl ?_
  refine Ev.rem fd_e58 rfl (by decide) ?_
  refine Ev.run 1 fd_e58 (i' := 19) (ls' := [fx_f 17, .inl (x1), .inl (x2)]) (st' := [.inl (2), .inl ((fx_rem x2 4))]) (M1 := M) rfl ?_
  refine Ev.icT fd_e58 rfl g (by decide) (decide_eq_true h) ?_
  exact k
theorem r58_15F {X : fx_Sc} {M M' : fx_M} {r : Option fx_V} {x1 x2 : Int} (g : (-2147483648 ≤ (fx_rem x2 4) ∧ (fx_rem x2 4) < 2147483648)) (h : (fx_rem x2 4) = 2) (k : Ev X 58 20 [fx_f 17, .inl (x1), .inl (x2)] [] M r M') : Ev X 58 15 [fx_f 17, .inl (x1), .inl (x2)] [] M r M' := by
  refine Ev.run 2 fd_e58 (i' := 17) (ls' := [fx_f 17, .inl (x1), .inl (x2)]) (st' := [.inl (4), .inl (x2)]) (M1 := M) rfl ?_
  refine Ev.rem fd_e58 rfl (by decide) ?_
  refine Ev.run 1 fd_e58 (i' := 19) (ls' := [fx_f 17, .inl (x1), .inl (x2)]) (st' := [.inl (2), .inl ((fx_rem x2 4))]) (M1 := M) rfl ?_
  refine Ev.icF fd_e58 rfl g (by decide) (decide_eq_false (not_not_intro h)) ?_
  exact k
theorem r58_20 {X : fx_Sc} {M M' : fx_M} {r : Option fx_V} {x1 x2 z : Int} {M1 : fx_M} (hc : Ev X 68 0 [fx_f 17, .inl ((x2 - 2))] [] M (some (.inl z)) M1) (k : Ev X 58 27 [fx_f 17, .inl (x1), .inl (x2)] [.inl (z), .inl (1), .inl (x1)] M1 r M') : Ev X 58 20 [fx_f 17, .inl (x1), .inl (x2)] [] M r M' := by
  refine Ev.run 6 fd_e58 (i' := 26) (ls' := [fx_f 17, .inl (x1), .inl (x2)]) (st' := [.inl ((x2 - 2)), fx_f 17, .inl (1), .inl (x1)]) (M1 := M) rfl ?_
  refine Ev.callV (vs := [fx_f 17, .inl ((x2 - 2))]) (rest := [.inl (1), .inl (x1)]) (r1 := (some (.inl z))) fd_e58 rfl rfl rfl (Nat.le_of_ble_eq_true rfl) (Nat.le_of_ble_eq_true rfl) rfl hc ?_
  exact k
theorem r58_27 {X : fx_Sc} {M M' : fx_M} {r : Option fx_V} {x1 x2 s0 s1 s2 z : Int} {M1 : fx_M} (hc : Ev X 67 0 [fx_f 17, .inl ((x2 - 2)), fx_u] [] M (some (.inl z)) M1) (k : Ev X 58 34 [fx_f 17, .inl (x1), .inl (x2)] [.inl (z), .inl (1), .inl ((fx_shl s1 s2)), .inl (s0)] M1 r M') : Ev X 58 27 [fx_f 17, .inl (x1), .inl (x2)] [.inl (s2), .inl (s1), .inl (s0)] M r M' := by
  refine Ev.run 6 fd_e58 (i' := 33) (ls' := [fx_f 17, .inl (x1), .inl (x2)]) (st' := [.inl ((x2 - 2)), fx_f 17, .inl (1), .inl ((fx_shl s1 s2)), .inl (s0)]) (M1 := M) rfl ?_
  refine Ev.callV (vs := [fx_f 17, .inl ((x2 - 2))]) (rest := [.inl (1), .inl ((fx_shl s1 s2)), .inl (s0)]) (r1 := (some (.inl z))) fd_e58 rfl rfl rfl (Nat.le_of_ble_eq_true rfl) (Nat.le_of_ble_eq_true rfl) rfl hc ?_
  exact k
theorem r58_34 {X : fx_Sc} {M M' : fx_M} {r : Option fx_V} {x1 x2 s0 s1 s2 s3 : Int} (k : Ev X 58 4 [fx_f 17, .inl ((fx_or s0 (fx_or s1 (fx_shl s2 s3)))), .inl ((x2 + 1))] [] M r M') : Ev X 58 34 [fx_f 17, .inl (x1), .inl (x2)] [.inl (s3), .inl (s2), .inl (s1), .inl (s0)] M r M' := by
  refine Ev.run 6 fd_e58 (i' := 4) (ls' := [fx_f 17, .inl ((fx_or s0 (fx_or s1 (fx_shl s2 s3)))), .inl ((x2 + 1))]) (st' := []) (M1 := M) rfl ?_
  exact k
theorem r58_38 {X : fx_Sc} {M M' : fx_M} {r : Option fx_V} {x1 x2 : Int} (k : Ev X 58 4 [fx_f 17, .inl (x1), .inl ((x2 + 1))] [] M r M') : Ev X 58 38 [fx_f 17, .inl (x1), .inl (x2)] [] M r M' := by
  refine Ev.run 2 fd_e58 (i' := 4) (ls' := [fx_f 17, .inl (x1), .inl ((x2 + 1))]) (st' := []) (M1 := M) rfl ?_
  exact k
theorem r58_40T {X : fx_Sc} {M M' : fx_M} {r : Option fx_V} {x1 x2 : Int} (g : (-2147483648 ≤ (fx_rem (M 17 1) 4) ∧ (fx_rem (M 17 1) 4) < 2147483648)) (h : (fx_rem (M 17 1) 4) ≠ 3) (k : Ev X 58 48 [fx_f 17, .inl (x1), .inl (x2)] [] M r M') : Ev X 58 40 [fx_f 17, .inl (x1), .inl (x2)] [] M r M' := by
  refine Ev.run 3 fd_e58 (i' := 43) (ls' := [fx_f 17, .inl (x1), .inl (x2)]) (st' := [.inl (4), .inl ((M 17 1))]) (M1 := M) rfl ?_
  refine Ev.rem fd_e58 rfl (by decide) ?_
  refine Ev.run 1 fd_e58 (i' := 45) (ls' := [fx_f 17, .inl (x1), .inl (x2)]) (st' := [.inl (3), .inl ((fx_rem (M 17 1) 4))]) (M1 := M) rfl ?_
  refine Ev.icT fd_e58 rfl g (by decide) (decide_eq_true h) ?_
  exact k
theorem r58_40F {X : fx_Sc} {M M' : fx_M} {r : Option fx_V} {x1 x2 : Int} (g : (-2147483648 ≤ (fx_rem (M 17 1) 4) ∧ (fx_rem (M 17 1) 4) < 2147483648)) (h : (fx_rem (M 17 1) 4) = 3) (k : Ev X 58 46 [fx_f 17, .inl (x1), .inl (x2)] [] M r M') : Ev X 58 40 [fx_f 17, .inl (x1), .inl (x2)] [] M r M' := by
  refine Ev.run 3 fd_e58 (i' := 43) (ls' := [fx_f 17, .inl (x1), .inl (x2)]) (st' := [.inl (4), .inl ((M 17 1))]) (M1 := M) rfl ?_
  refine Ev.rem fd_e58 rfl (by decide) ?_
  refine Ev.run 1 fd_e58 (i' := 45) (ls' := [fx_f 17, .inl (x1), .inl (x2)]) (st' := [.inl (3), .inl ((fx_rem (M 17 1) 4))]) (M1 := M) rfl ?_
  refine Ev.icF fd_e58 rfl g (by decide) (decide_eq_false (not_not_intro h)) ?_
  exact k
theorem r58_46 {X : fx_Sc} {M : fx_M} {x1 x2 : Int} : Ev X 58 46 [fx_f 17, .inl (x1), .inl (x2)] [] M (some (.inl ((-6)))) M := by
  refine Ev.run 2 fd_e58 (i' := 50) (ls' := [fx_f 17, .inl (x1), .inl (x2)]) (st' := [.inl ((-6))]) (M1 := M) rfl ?_
  exact Ev.ret1 fd_e58 rfl rfl
theorem r58_48 {X : fx_Sc} {M : fx_M} {x1 x2 : Int} : Ev X 58 48 [fx_f 17, .inl (x1), .inl (x2)] [] M (some (.inl ((M 17 1)))) M := by
  refine Ev.run 2 fd_e58 (i' := 50) (ls' := [fx_f 17, .inl (x1), .inl (x2)]) (st' := [.inl ((M 17 1))]) (M1 := M) rfl ?_
  exact Ev.ret1 fd_e58 rfl rfl
-- 59: FoldedStrips$Pad.canStand(II)Z
theorem fd_e59 : fd_C 59 = fd_c59 := rfl
theorem r59_0D {X : fx_Sc} {M M' : fx_M} {r : Option fx_V} {x1 x2 : Int} (g : (-2147483648 ≤ (fx_rem x1 4) ∧ (fx_rem x1 4) < 2147483648)) (h : (fx_rem x1 4) < 0 ∨ 2 < (fx_rem x1 4)) (k : Ev X 59 26 [fx_f 17, .inl (x1), .inl (x2)] [] M r M') : Ev X 59 0 [fx_f 17, .inl (x1), .inl (x2)] [] M r M' := by
  refine Ev.run 2 fd_e59 (i' := 2) (ls' := [fx_f 17, .inl (x1), .inl (x2)]) (st' := [.inl (4), .inl (x1)]) (M1 := M) rfl ?_
  refine Ev.rem fd_e59 rfl (by decide) ?_
  refine Ev.tsO fd_e59 rfl g h ?_
  exact k
theorem r59_0c0 {X : fx_Sc} {M M' : fx_M} {r : Option fx_V} {x1 x2 : Int} (h : (fx_rem x1 4) = 0) (k : Ev X 59 4 [fx_f 17, .inl (x1), .inl (x2)] [] M r M') : Ev X 59 0 [fx_f 17, .inl (x1), .inl (x2)] [] M r M' := by
  refine Ev.run 2 fd_e59 (i' := 2) (ls' := [fx_f 17, .inl (x1), .inl (x2)]) (st' := [.inl (4), .inl (x1)]) (M1 := M) rfl ?_
  refine Ev.rem fd_e59 rfl (by decide) ?_
  refine Ev.tsI (t := 4) fd_e59 rfl (by rw [h]; decide) (by rw [h]; decide) (by rw [h]; rfl) ?_
  exact k
theorem r59_0c1 {X : fx_Sc} {M M' : fx_M} {r : Option fx_V} {x1 x2 : Int} (h : (fx_rem x1 4) = 1) (k : Ev X 59 10 [fx_f 17, .inl (x1), .inl (x2)] [] M r M') : Ev X 59 0 [fx_f 17, .inl (x1), .inl (x2)] [] M r M' := by
  refine Ev.run 2 fd_e59 (i' := 2) (ls' := [fx_f 17, .inl (x1), .inl (x2)]) (st' := [.inl (4), .inl (x1)]) (M1 := M) rfl ?_
  refine Ev.rem fd_e59 rfl (by decide) ?_
  refine Ev.tsI (t := 10) fd_e59 rfl (by rw [h]; decide) (by rw [h]; decide) (by rw [h]; rfl) ?_
  exact k
theorem r59_0c2 {X : fx_Sc} {M M' : fx_M} {r : Option fx_V} {x1 x2 : Int} (h : (fx_rem x1 4) = 2) (k : Ev X 59 21 [fx_f 17, .inl (x1), .inl (x2)] [] M r M') : Ev X 59 0 [fx_f 17, .inl (x1), .inl (x2)] [] M r M' := by
  refine Ev.run 2 fd_e59 (i' := 2) (ls' := [fx_f 17, .inl (x1), .inl (x2)]) (st' := [.inl (4), .inl (x1)]) (M1 := M) rfl ?_
  refine Ev.rem fd_e59 rfl (by decide) ?_
  refine Ev.tsI (t := 21) fd_e59 rfl (by rw [h]; decide) (by rw [h]; decide) (by rw [h]; rfl) ?_
  exact k
theorem r59_4 {X : fx_Sc} {M M' : fx_M} {r : Option fx_V} {x1 x2 z : Int} {M1 : fx_M} (hc : Ev X 60 0 [fx_f 17, .inl (x1), fx_u] [] M (some (.inl z)) M1) (k : Ev X 59 7 [fx_f 17, .inl (x1), .inl (x2)] [.inl (z)] M1 r M') : Ev X 59 4 [fx_f 17, .inl (x1), .inl (x2)] [] M r M' := by
  refine Ev.run 2 fd_e59 (i' := 6) (ls' := [fx_f 17, .inl (x1), .inl (x2)]) (st' := [.inl (x1), fx_f 17]) (M1 := M) rfl ?_
  refine Ev.callV (vs := [fx_f 17, .inl (x1)]) (rest := []) (r1 := (some (.inl z))) fd_e59 rfl rfl rfl (Nat.le_of_ble_eq_true rfl) (Nat.le_of_ble_eq_true rfl) rfl hc ?_
  exact k
theorem r59_7 {X : fx_Sc} {M M' : fx_M} {r : Option fx_V} {x1 x2 s0 z : Int} {M1 : fx_M} (hc : Ev X 62 0 [.inl (s0), .inl (x2)] [] M (some (.inl z)) M1) (k : Ev X 59 9 [fx_f 17, .inl (x1), .inl (x2)] [.inl (z)] M1 r M') : Ev X 59 7 [fx_f 17, .inl (x1), .inl (x2)] [.inl (s0)] M r M' := by
  refine Ev.run 1 fd_e59 (i' := 8) (ls' := [fx_f 17, .inl (x1), .inl (x2)]) (st' := [.inl (x2), .inl (s0)]) (M1 := M) rfl ?_
  refine Ev.callS (vs := [.inl (s0), .inl (x2)]) (rest := []) (r1 := (some (.inl z))) fd_e59 rfl rfl rfl (Nat.le_of_ble_eq_true rfl) (Nat.le_of_ble_eq_true rfl) hc ?_
  exact k
theorem r59_9 {X : fx_Sc} {M : fx_M} {x1 x2 s0 : Int} (g : (s0 = 0 ∨ s0 = 1)) : Ev X 59 9 [fx_f 17, .inl (x1), .inl (x2)] [.inl (s0)] M (some (.inl (s0))) M := by
  exact Ev.ret2 fd_e59 rfl rfl g
theorem r59_10 {X : fx_Sc} {M M' : fx_M} {r : Option fx_V} {x1 x2 z : Int} {M1 : fx_M} (hc : Ev X 60 0 [fx_f 17, .inl ((x1 - 1)), fx_u] [] M (some (.inl z)) M1) (k : Ev X 59 15 [fx_f 17, .inl (x1), .inl (x2)] [.inl (z)] M1 r M') : Ev X 59 10 [fx_f 17, .inl (x1), .inl (x2)] [] M r M' := by
  refine Ev.run 4 fd_e59 (i' := 14) (ls' := [fx_f 17, .inl (x1), .inl (x2)]) (st' := [.inl ((x1 - 1)), fx_f 17]) (M1 := M) rfl ?_
  refine Ev.callV (vs := [fx_f 17, .inl ((x1 - 1))]) (rest := []) (r1 := (some (.inl z))) fd_e59 rfl rfl rfl (Nat.le_of_ble_eq_true rfl) (Nat.le_of_ble_eq_true rfl) rfl hc ?_
  exact k
theorem r59_15 {X : fx_Sc} {M M' : fx_M} {r : Option fx_V} {x1 x2 s0 z : Int} {M1 : fx_M} (hc : Ev X 61 0 [fx_f 17, .inl (x1)] [] M (some (.inl z)) M1) (k : Ev X 59 18 [fx_f 17, .inl (x1), .inl (x2)] [.inl (z), .inl (s0)] M1 r M') : Ev X 59 15 [fx_f 17, .inl (x1), .inl (x2)] [.inl (s0)] M r M' := by
  refine Ev.run 2 fd_e59 (i' := 17) (ls' := [fx_f 17, .inl (x1), .inl (x2)]) (st' := [.inl (x1), fx_f 17, .inl (s0)]) (M1 := M) rfl ?_
  refine Ev.callV (vs := [fx_f 17, .inl (x1)]) (rest := [.inl (s0)]) (r1 := (some (.inl z))) fd_e59 rfl rfl rfl (Nat.le_of_ble_eq_true rfl) (Nat.le_of_ble_eq_true rfl) rfl hc ?_
  exact k
theorem r59_18 {X : fx_Sc} {M M' : fx_M} {r : Option fx_V} {x1 x2 s0 s1 z : Int} {M1 : fx_M} (hc : Ev X 63 0 [.inl (s0), .inl (s1), .inl (x2)] [] M (some (.inl z)) M1) (k : Ev X 59 20 [fx_f 17, .inl (x1), .inl (x2)] [.inl (z)] M1 r M') : Ev X 59 18 [fx_f 17, .inl (x1), .inl (x2)] [.inl (s1), .inl (s0)] M r M' := by
  refine Ev.run 1 fd_e59 (i' := 19) (ls' := [fx_f 17, .inl (x1), .inl (x2)]) (st' := [.inl (x2), .inl (s1), .inl (s0)]) (M1 := M) rfl ?_
  refine Ev.callS (vs := [.inl (s0), .inl (s1), .inl (x2)]) (rest := []) (r1 := (some (.inl z))) fd_e59 rfl rfl rfl (Nat.le_of_ble_eq_true rfl) (Nat.le_of_ble_eq_true rfl) hc ?_
  exact k
theorem r59_20 {X : fx_Sc} {M : fx_M} {x1 x2 s0 : Int} (g : (s0 = 0 ∨ s0 = 1)) : Ev X 59 20 [fx_f 17, .inl (x1), .inl (x2)] [.inl (s0)] M (some (.inl (s0))) M := by
  exact Ev.ret2 fd_e59 rfl rfl g
theorem r59_21 {X : fx_Sc} {M M' : fx_M} {r : Option fx_V} {x1 x2 z : Int} {M1 : fx_M} (hc : Ev X 66 0 [fx_f 17, .inl (x1), .inl (x2), fx_u] [] M (some (.inl z)) M1) (k : Ev X 59 25 [fx_f 17, .inl (x1), .inl (x2)] [.inl (z)] M1 r M') : Ev X 59 21 [fx_f 17, .inl (x1), .inl (x2)] [] M r M' := by
  refine Ev.run 3 fd_e59 (i' := 24) (ls' := [fx_f 17, .inl (x1), .inl (x2)]) (st' := [.inl (x2), .inl (x1), fx_f 17]) (M1 := M) rfl ?_
  refine Ev.callV (vs := [fx_f 17, .inl (x1), .inl (x2)]) (rest := []) (r1 := (some (.inl z))) fd_e59 rfl rfl rfl (Nat.le_of_ble_eq_true rfl) (Nat.le_of_ble_eq_true rfl) rfl hc ?_
  exact k
theorem r59_25 {X : fx_Sc} {M : fx_M} {x1 x2 s0 : Int} (g : (s0 = 0 ∨ s0 = 1)) : Ev X 59 25 [fx_f 17, .inl (x1), .inl (x2)] [.inl (s0)] M (some (.inl (s0))) M := by
  exact Ev.ret2 fd_e59 rfl rfl g
theorem r59_26 {X : fx_Sc} {M M' : fx_M} {r : Option fx_V} {x1 x2 z : Int} {M1 : fx_M} (hc : Ev X 61 0 [fx_f 17, .inl (x1)] [] M (some (.inl z)) M1) (k : Ev X 59 29 [fx_f 17, .inl (x1), .inl (x2)] [.inl (z)] M1 r M') : Ev X 59 26 [fx_f 17, .inl (x1), .inl (x2)] [] M r M' := by
  refine Ev.run 2 fd_e59 (i' := 28) (ls' := [fx_f 17, .inl (x1), .inl (x2)]) (st' := [.inl (x1), fx_f 17]) (M1 := M) rfl ?_
  refine Ev.callV (vs := [fx_f 17, .inl (x1)]) (rest := []) (r1 := (some (.inl z))) fd_e59 rfl rfl rfl (Nat.le_of_ble_eq_true rfl) (Nat.le_of_ble_eq_true rfl) rfl hc ?_
  exact k
theorem r59_29T {X : fx_Sc} {M M' : fx_M} {r : Option fx_V} {x1 x2 s0 : Int} (g : (-2147483648 ≤ s0 ∧ s0 < 2147483648)) (h : s0 ≠ 59) (k : Ev X 59 36 [fx_f 17, .inl (x1), .inl (x2)] [] M r M') : Ev X 59 29 [fx_f 17, .inl (x1), .inl (x2)] [.inl (s0)] M r M' := by
  refine Ev.run 1 fd_e59 (i' := 30) (ls' := [fx_f 17, .inl (x1), .inl (x2)]) (st' := [.inl (59), .inl (s0)]) (M1 := M) rfl ?_
  refine Ev.icT fd_e59 rfl g (by decide) (decide_eq_true h) ?_
  exact k
theorem r59_29F {X : fx_Sc} {M M' : fx_M} {r : Option fx_V} {x1 x2 s0 : Int} (g : (-2147483648 ≤ s0 ∧ s0 < 2147483648)) (h : s0 = 59) (k : Ev X 59 31 [fx_f 17, .inl (x1), .inl (x2)] [] M r M') : Ev X 59 29 [fx_f 17, .inl (x1), .inl (x2)] [.inl (s0)] M r M' := by
  refine Ev.run 1 fd_e59 (i' := 30) (ls' := [fx_f 17, .inl (x1), .inl (x2)]) (st' := [.inl (59), .inl (s0)]) (M1 := M) rfl ?_
  refine Ev.icF fd_e59 rfl g (by decide) (decide_eq_false (not_not_intro h)) ?_
  exact k
theorem r59_31T {X : fx_Sc} {M M' : fx_M} {r : Option fx_V} {x1 x2 : Int} (g : (-2147483648 ≤ x2 ∧ x2 < 2147483648)) (h : x2 = 16777215) (k : Ev X 59 36 [fx_f 17, .inl (x1), .inl (x2)] [] M r M') : Ev X 59 31 [fx_f 17, .inl (x1), .inl (x2)] [] M r M' := by
  refine Ev.run 2 fd_e59 (i' := 33) (ls' := [fx_f 17, .inl (x1), .inl (x2)]) (st' := [.inl (16777215), .inl (x2)]) (M1 := M) rfl ?_
  refine Ev.icT fd_e59 rfl g (by decide) (decide_eq_true h) ?_
  exact k
theorem r59_31F {X : fx_Sc} {M M' : fx_M} {r : Option fx_V} {x1 x2 : Int} (g : (-2147483648 ≤ x2 ∧ x2 < 2147483648)) (h : x2 ≠ 16777215) (k : Ev X 59 34 [fx_f 17, .inl (x1), .inl (x2)] [] M r M') : Ev X 59 31 [fx_f 17, .inl (x1), .inl (x2)] [] M r M' := by
  refine Ev.run 2 fd_e59 (i' := 33) (ls' := [fx_f 17, .inl (x1), .inl (x2)]) (st' := [.inl (16777215), .inl (x2)]) (M1 := M) rfl ?_
  refine Ev.icF fd_e59 rfl g (by decide) (decide_eq_false h) ?_
  exact k
theorem r59_34 {X : fx_Sc} {M : fx_M} {x1 x2 : Int} : Ev X 59 34 [fx_f 17, .inl (x1), .inl (x2)] [] M (some (.inl (1))) M := by
  refine Ev.run 2 fd_e59 (i' := 37) (ls' := [fx_f 17, .inl (x1), .inl (x2)]) (st' := [.inl (1)]) (M1 := M) rfl ?_
  exact Ev.ret2 fd_e59 rfl rfl (by decide)
theorem r59_36 {X : fx_Sc} {M : fx_M} {x1 x2 : Int} : Ev X 59 36 [fx_f 17, .inl (x1), .inl (x2)] [] M (some (.inl (0))) M := by
  refine Ev.run 1 fd_e59 (i' := 37) (ls' := [fx_f 17, .inl (x1), .inl (x2)]) (st' := [.inl (0)]) (M1 := M) rfl ?_
  exact Ev.ret2 fd_e59 rfl rfl (by decide)
-- 60: FoldedStrips$Pad.columnAt(I)I
theorem fd_e60 : fd_C 60 = fd_c60 := rfl
theorem r60_0 {X : fx_Sc} {M M' : fx_M} {r : Option fx_V} {x1 z : Int} {M1 : fx_M} (hc : Ev X 61 0 [fx_f 17, .inl (x1)] [] M (some (.inl z)) M1) (k : Ev X 60 3 [fx_f 17, .inl (x1), fx_u] [.inl (z)] M1 r M') : Ev X 60 0 [fx_f 17, .inl (x1), fx_u] [] M r M' := by
  refine Ev.run 2 fd_e60 (i' := 2) (ls' := [fx_f 17, .inl (x1), fx_u]) (st' := [.inl (x1), fx_f 17]) (M1 := M) rfl ?_
  refine Ev.callV (vs := [fx_f 17, .inl (x1)]) (rest := []) (r1 := (some (.inl z))) fd_e60 rfl rfl rfl (Nat.le_of_ble_eq_true rfl) (Nat.le_of_ble_eq_true rfl) rfl hc ?_
  exact k
theorem r60_3T {X : fx_Sc} {M M' : fx_M} {r : Option fx_V} {x1 s0 : Int} (g : (-2147483648 ≤ (s0 - 97) ∧ (s0 - 97) < 2147483648)) (h : (s0 - 97) < 0) (k : Ev X 60 13 [fx_f 17, .inl (x1), .inl ((s0 - 97))] [] M r M') : Ev X 60 3 [fx_f 17, .inl (x1), fx_u] [.inl (s0)] M r M' := by
  refine Ev.run 4 fd_e60 (i' := 7) (ls' := [fx_f 17, .inl (x1), .inl ((s0 - 97))]) (st' := [.inl ((s0 - 97))]) (M1 := M) rfl ?_
  refine Ev.ifT fd_e60 rfl g (decide_eq_true h) ?_
  exact k
theorem r60_3F {X : fx_Sc} {M M' : fx_M} {r : Option fx_V} {x1 s0 : Int} (g : (-2147483648 ≤ (s0 - 97) ∧ (s0 - 97) < 2147483648)) (h : 0 ≤ (s0 - 97)) (k : Ev X 60 8 [fx_f 17, .inl (x1), .inl ((s0 - 97))] [] M r M') : Ev X 60 3 [fx_f 17, .inl (x1), fx_u] [.inl (s0)] M r M' := by
  refine Ev.run 4 fd_e60 (i' := 7) (ls' := [fx_f 17, .inl (x1), .inl ((s0 - 97))]) (st' := [.inl ((s0 - 97))]) (M1 := M) rfl ?_
  refine Ev.ifF fd_e60 rfl g (decide_eq_false (Int.not_lt.mpr h)) ?_
  exact k
theorem r60_8T {X : fx_Sc} {M M' : fx_M} {r : Option fx_V} {x1 x2 : Int} (g : (-2147483648 ≤ x2 ∧ x2 < 2147483648)) (h : 12 ≤ x2) (k : Ev X 60 13 [fx_f 17, .inl (x1), .inl (x2)] [] M r M') : Ev X 60 8 [fx_f 17, .inl (x1), .inl (x2)] [] M r M' := by
  refine Ev.run 2 fd_e60 (i' := 10) (ls' := [fx_f 17, .inl (x1), .inl (x2)]) (st' := [.inl (12), .inl (x2)]) (M1 := M) rfl ?_
  refine Ev.icT fd_e60 rfl g (by decide) (decide_eq_true h) ?_
  exact k
theorem r60_8F {X : fx_Sc} {M M' : fx_M} {r : Option fx_V} {x1 x2 : Int} (g : (-2147483648 ≤ x2 ∧ x2 < 2147483648)) (h : x2 < 12) (k : Ev X 60 11 [fx_f 17, .inl (x1), .inl (x2)] [] M r M') : Ev X 60 8 [fx_f 17, .inl (x1), .inl (x2)] [] M r M' := by
  refine Ev.run 2 fd_e60 (i' := 10) (ls' := [fx_f 17, .inl (x1), .inl (x2)]) (st' := [.inl (12), .inl (x2)]) (M1 := M) rfl ?_
  refine Ev.icF fd_e60 rfl g (by decide) (decide_eq_false (Int.not_le.mpr h)) ?_
  exact k
theorem r60_11 {X : fx_Sc} {M : fx_M} {x1 x2 : Int} : Ev X 60 11 [fx_f 17, .inl (x1), .inl (x2)] [] M (some (.inl (x2))) M := by
  refine Ev.run 2 fd_e60 (i' := 14) (ls' := [fx_f 17, .inl (x1), .inl (x2)]) (st' := [.inl (x2)]) (M1 := M) rfl ?_
  exact Ev.ret1 fd_e60 rfl rfl
theorem r60_13 {X : fx_Sc} {M : fx_M} {x1 x2 : Int} : Ev X 60 13 [fx_f 17, .inl (x1), .inl (x2)] [] M (some (.inl ((-1)))) M := by
  refine Ev.run 1 fd_e60 (i' := 14) (ls' := [fx_f 17, .inl (x1), .inl (x2)]) (st' := [.inl ((-1))]) (M1 := M) rfl ?_
  exact Ev.ret1 fd_e60 rfl rfl
-- 61: FoldedStrips$Pad.charAt(I)C
theorem fd_e61 : fd_C 61 = fd_c61 := rfl
theorem r61_0T {X : fx_Sc} {M M' : fx_M} {r : Option fx_V} {x1 : Int} (g : (-2147483648 ≤ x1 ∧ x1 < 2147483648)) (h : x1 < 0) (k : Ev X 61 11 [fx_f 17, .inl (x1)] [] M r M') : Ev X 61 0 [fx_f 17, .inl (x1)] [] M r M' := by
  refine Ev.run 1 fd_e61 (i' := 1) (ls' := [fx_f 17, .inl (x1)]) (st' := [.inl (x1)]) (M1 := M) rfl ?_
  refine Ev.ifT fd_e61 rfl g (decide_eq_true h) ?_
  exact k
theorem r61_0F {X : fx_Sc} {M M' : fx_M} {r : Option fx_V} {x1 : Int} (g : (-2147483648 ≤ x1 ∧ x1 < 2147483648)) (h : 0 ≤ x1) (k : Ev X 61 2 [fx_f 17, .inl (x1)] [] M r M') : Ev X 61 0 [fx_f 17, .inl (x1)] [] M r M' := by
  refine Ev.run 1 fd_e61 (i' := 1) (ls' := [fx_f 17, .inl (x1)]) (st' := [.inl (x1)]) (M1 := M) rfl ?_
  refine Ev.ifF fd_e61 rfl g (decide_eq_false (Int.not_lt.mpr h)) ?_
  exact k
theorem r61_2T {X : fx_Sc} {M M' : fx_M} {r : Option fx_V} {x1 : Int} (g : (-2147483648 ≤ x1 ∧ x1 < 2147483648) ∧ (-2147483648 ≤ (M 17 1) ∧ (M 17 1) < 2147483648)) (h : (M 17 1) ≤ x1) (k : Ev X 61 11 [fx_f 17, .inl (x1)] [] M r M') : Ev X 61 2 [fx_f 17, .inl (x1)] [] M r M' := by
  refine Ev.run 3 fd_e61 (i' := 5) (ls' := [fx_f 17, .inl (x1)]) (st' := [.inl ((M 17 1)), .inl (x1)]) (M1 := M) rfl ?_
  refine Ev.icT fd_e61 rfl g.1 g.2 (decide_eq_true h) ?_
  exact k
theorem r61_2F {X : fx_Sc} {M M' : fx_M} {r : Option fx_V} {x1 : Int} (g : (-2147483648 ≤ x1 ∧ x1 < 2147483648) ∧ (-2147483648 ≤ (M 17 1) ∧ (M 17 1) < 2147483648)) (h : x1 < (M 17 1)) (k : Ev X 61 6 [fx_f 17, .inl (x1)] [] M r M') : Ev X 61 2 [fx_f 17, .inl (x1)] [] M r M' := by
  refine Ev.run 3 fd_e61 (i' := 5) (ls' := [fx_f 17, .inl (x1)]) (st' := [.inl ((M 17 1)), .inl (x1)]) (M1 := M) rfl ?_
  refine Ev.icF fd_e61 rfl g.1 g.2 (decide_eq_false (Int.not_le.mpr h)) ?_
  exact k
theorem r61_6 {X : fx_Sc} {M : fx_M} {x1 : Int} (g : (0 ≤ x1 ∧ x1 < ((60 : Nat) : Int)) ∧ (0 ≤ (M 18 (x1).toNat) ∧ (M 18 (x1).toNat) < 65536)) : Ev X 61 6 [fx_f 17, .inl (x1)] [] M (some (.inl ((M 18 (x1).toNat)))) M := by
  refine Ev.run 3 fd_e61 (i' := 9) (ls' := [fx_f 17, .inl (x1)]) (st' := [.inl (x1), fx_f 18]) (M1 := M) rfl ?_
  refine Ev.cald fd_e61 rfl rfl (by decide) g.1 ?_
  refine Ev.run 1 fd_e61 (i' := 12) (ls' := [fx_f 17, .inl (x1)]) (st' := [.inl ((M 18 (x1).toNat))]) (M1 := M) rfl ?_
  exact Ev.ret3 fd_e61 rfl rfl g.2
theorem r61_11 {X : fx_Sc} {M : fx_M} {x1 : Int} : Ev X 61 11 [fx_f 17, .inl (x1)] [] M (some (.inl (32))) M := by
  refine Ev.run 1 fd_e61 (i' := 12) (ls' := [fx_f 17, .inl (x1)]) (st' := [.inl (32)]) (M1 := M) rfl ?_
  exact Ev.ret3 fd_e61 rfl rfl (by decide)
-- 62: FoldedStrips$Pad.canBegin(II)Z
theorem fd_e62 : fd_C 62 = fd_c62 := rfl
theorem r62_0 {X : fx_Sc} {M M' : fx_M} {r : Option fx_V} {x0 x1 z : Int} {M1 : fx_M} (hc : Ev X 63 0 [.inl (x0), .inl (124), .inl (x1)] [] M (some (.inl z)) M1) (k : Ev X 62 4 [.inl (x0), .inl (x1)] [.inl (z)] M1 r M') : Ev X 62 0 [.inl (x0), .inl (x1)] [] M r M' := by
  refine Ev.run 3 fd_e62 (i' := 3) (ls' := [.inl (x0), .inl (x1)]) (st' := [.inl (x1), .inl (124), .inl (x0)]) (M1 := M) rfl ?_
  refine Ev.callS (vs := [.inl (x0), .inl (124), .inl (x1)]) (rest := []) (r1 := (some (.inl z))) fd_e62 rfl rfl rfl (Nat.le_of_ble_eq_true rfl) (Nat.le_of_ble_eq_true rfl) hc ?_
  exact k
theorem r62_4T {X : fx_Sc} {M M' : fx_M} {r : Option fx_V} {x0 x1 s0 : Int} (g : (-2147483648 ≤ s0 ∧ s0 < 2147483648)) (h : s0 ≠ 0) (k : Ev X 62 15 [.inl (x0), .inl (x1)] [] M r M') : Ev X 62 4 [.inl (x0), .inl (x1)] [.inl (s0)] M r M' := by
  refine Ev.ifT fd_e62 rfl g (decide_eq_true h) ?_
  exact k
theorem r62_4F {X : fx_Sc} {M M' : fx_M} {r : Option fx_V} {x0 x1 s0 : Int} (g : (-2147483648 ≤ s0 ∧ s0 < 2147483648)) (h : s0 = 0) (k : Ev X 62 5 [.inl (x0), .inl (x1)] [] M r M') : Ev X 62 4 [.inl (x0), .inl (x1)] [.inl (s0)] M r M' := by
  refine Ev.ifF fd_e62 rfl g (decide_eq_false (not_not_intro h)) ?_
  exact k
theorem r62_5 {X : fx_Sc} {M M' : fx_M} {r : Option fx_V} {x0 x1 z : Int} {M1 : fx_M} (hc : Ev X 63 0 [.inl (x0), .inl (94), .inl (x1)] [] M (some (.inl z)) M1) (k : Ev X 62 9 [.inl (x0), .inl (x1)] [.inl (z)] M1 r M') : Ev X 62 5 [.inl (x0), .inl (x1)] [] M r M' := by
  refine Ev.run 3 fd_e62 (i' := 8) (ls' := [.inl (x0), .inl (x1)]) (st' := [.inl (x1), .inl (94), .inl (x0)]) (M1 := M) rfl ?_
  refine Ev.callS (vs := [.inl (x0), .inl (94), .inl (x1)]) (rest := []) (r1 := (some (.inl z))) fd_e62 rfl rfl rfl (Nat.le_of_ble_eq_true rfl) (Nat.le_of_ble_eq_true rfl) hc ?_
  exact k
theorem r62_9T {X : fx_Sc} {M M' : fx_M} {r : Option fx_V} {x0 x1 s0 : Int} (g : (-2147483648 ≤ s0 ∧ s0 < 2147483648)) (h : s0 ≠ 0) (k : Ev X 62 15 [.inl (x0), .inl (x1)] [] M r M') : Ev X 62 9 [.inl (x0), .inl (x1)] [.inl (s0)] M r M' := by
  refine Ev.ifT fd_e62 rfl g (decide_eq_true h) ?_
  exact k
theorem r62_9F {X : fx_Sc} {M M' : fx_M} {r : Option fx_V} {x0 x1 s0 : Int} (g : (-2147483648 ≤ s0 ∧ s0 < 2147483648)) (h : s0 = 0) (k : Ev X 62 10 [.inl (x0), .inl (x1)] [] M r M') : Ev X 62 9 [.inl (x0), .inl (x1)] [.inl (s0)] M r M' := by
  refine Ev.ifF fd_e62 rfl g (decide_eq_false (not_not_intro h)) ?_
  exact k
theorem r62_10 {X : fx_Sc} {M M' : fx_M} {r : Option fx_V} {x0 x1 z : Int} {M1 : fx_M} (hc : Ev X 63 0 [.inl (x0), .inl (95), .inl (x1)] [] M (some (.inl z)) M1) (k : Ev X 62 14 [.inl (x0), .inl (x1)] [.inl (z)] M1 r M') : Ev X 62 10 [.inl (x0), .inl (x1)] [] M r M' := by
  refine Ev.run 3 fd_e62 (i' := 13) (ls' := [.inl (x0), .inl (x1)]) (st' := [.inl (x1), .inl (95), .inl (x0)]) (M1 := M) rfl ?_
  refine Ev.callS (vs := [.inl (x0), .inl (95), .inl (x1)]) (rest := []) (r1 := (some (.inl z))) fd_e62 rfl rfl rfl (Nat.le_of_ble_eq_true rfl) (Nat.le_of_ble_eq_true rfl) hc ?_
  exact k
theorem r62_14T {X : fx_Sc} {M M' : fx_M} {r : Option fx_V} {x0 x1 s0 : Int} (g : (-2147483648 ≤ s0 ∧ s0 < 2147483648)) (h : s0 = 0) (k : Ev X 62 17 [.inl (x0), .inl (x1)] [] M r M') : Ev X 62 14 [.inl (x0), .inl (x1)] [.inl (s0)] M r M' := by
  refine Ev.ifT fd_e62 rfl g (decide_eq_true h) ?_
  exact k
theorem r62_14F {X : fx_Sc} {M M' : fx_M} {r : Option fx_V} {x0 x1 s0 : Int} (g : (-2147483648 ≤ s0 ∧ s0 < 2147483648)) (h : s0 ≠ 0) (k : Ev X 62 15 [.inl (x0), .inl (x1)] [] M r M') : Ev X 62 14 [.inl (x0), .inl (x1)] [.inl (s0)] M r M' := by
  refine Ev.ifF fd_e62 rfl g (decide_eq_false h) ?_
  exact k
theorem r62_15 {X : fx_Sc} {M : fx_M} {x0 x1 : Int} : Ev X 62 15 [.inl (x0), .inl (x1)] [] M (some (.inl (1))) M := by
  refine Ev.run 2 fd_e62 (i' := 18) (ls' := [.inl (x0), .inl (x1)]) (st' := [.inl (1)]) (M1 := M) rfl ?_
  exact Ev.ret2 fd_e62 rfl rfl (by decide)
theorem r62_17 {X : fx_Sc} {M : fx_M} {x0 x1 : Int} : Ev X 62 17 [.inl (x0), .inl (x1)] [] M (some (.inl (0))) M := by
  refine Ev.run 1 fd_e62 (i' := 18) (ls' := [.inl (x0), .inl (x1)]) (st' := [.inl (0)]) (M1 := M) rfl ?_
  exact Ev.ret2 fd_e62 rfl rfl (by decide)
-- 63: FoldedStrips$Pad.canGoOn(ICI)Z
theorem fd_e63 : fd_C 63 = fd_c63 := rfl
theorem r63_0T {X : fx_Sc} {M M' : fx_M} {r : Option fx_V} {x0 x1 x2 : Int} (g : (-2147483648 ≤ x0 ∧ x0 < 2147483648)) (h : x0 = (-1)) (k : Ev X 63 11 [.inl (x0), .inl (x1), .inl (x2)] [] M r M') : Ev X 63 0 [.inl (x0), .inl (x1), .inl (x2)] [] M r M' := by
  refine Ev.run 2 fd_e63 (i' := 2) (ls' := [.inl (x0), .inl (x1), .inl (x2)]) (st' := [.inl ((-1)), .inl (x0)]) (M1 := M) rfl ?_
  refine Ev.icT fd_e63 rfl g (by decide) (decide_eq_true h) ?_
  exact k
theorem r63_0F {X : fx_Sc} {M M' : fx_M} {r : Option fx_V} {x0 x1 x2 : Int} (g : (-2147483648 ≤ x0 ∧ x0 < 2147483648)) (h : x0 ≠ (-1)) (k : Ev X 63 3 [.inl (x0), .inl (x1), .inl (x2)] [] M r M') : Ev X 63 0 [.inl (x0), .inl (x1), .inl (x2)] [] M r M' := by
  refine Ev.run 2 fd_e63 (i' := 2) (ls' := [.inl (x0), .inl (x1), .inl (x2)]) (st' := [.inl ((-1)), .inl (x0)]) (M1 := M) rfl ?_
  refine Ev.icF fd_e63 rfl g (by decide) (decide_eq_false h) ?_
  exact k
theorem r63_3 {X : fx_Sc} {M M' : fx_M} {r : Option fx_V} {x0 x1 x2 z : Int} {M1 : fx_M} (hc : Ev X 64 0 [.inl (x0), .inl (x1)] [] M (some (.inl z)) M1) (k : Ev X 63 8 [.inl (x0), .inl (x1), .inl (x2)] [.inl (z), .inl (1), .inl (x2)] M1 r M') : Ev X 63 3 [.inl (x0), .inl (x1), .inl (x2)] [] M r M' := by
  refine Ev.run 4 fd_e63 (i' := 7) (ls' := [.inl (x0), .inl (x1), .inl (x2)]) (st' := [.inl (x1), .inl (x0), .inl (1), .inl (x2)]) (M1 := M) rfl ?_
  refine Ev.callS (vs := [.inl (x0), .inl (x1)]) (rest := [.inl (1), .inl (x2)]) (r1 := (some (.inl z))) fd_e63 rfl rfl rfl (Nat.le_of_ble_eq_true rfl) (Nat.le_of_ble_eq_true rfl) hc ?_
  exact k
theorem r63_8T {X : fx_Sc} {M M' : fx_M} {r : Option fx_V} {x0 x1 x2 s0 s1 s2 : Int} (g : (-2147483648 ≤ (fx_and s0 (fx_shl s1 s2)) ∧ (fx_and s0 (fx_shl s1 s2)) < 2147483648)) (h : (fx_and s0 (fx_shl s1 s2)) = 0) (k : Ev X 63 13 [.inl (x0), .inl (x1), .inl (x2)] [] M r M') : Ev X 63 8 [.inl (x0), .inl (x1), .inl (x2)] [.inl (s2), .inl (s1), .inl (s0)] M r M' := by
  refine Ev.run 2 fd_e63 (i' := 10) (ls' := [.inl (x0), .inl (x1), .inl (x2)]) (st' := [.inl ((fx_and s0 (fx_shl s1 s2)))]) (M1 := M) rfl ?_
  refine Ev.ifT fd_e63 rfl g (decide_eq_true h) ?_
  exact k
theorem r63_8F {X : fx_Sc} {M M' : fx_M} {r : Option fx_V} {x0 x1 x2 s0 s1 s2 : Int} (g : (-2147483648 ≤ (fx_and s0 (fx_shl s1 s2)) ∧ (fx_and s0 (fx_shl s1 s2)) < 2147483648)) (h : (fx_and s0 (fx_shl s1 s2)) ≠ 0) (k : Ev X 63 11 [.inl (x0), .inl (x1), .inl (x2)] [] M r M') : Ev X 63 8 [.inl (x0), .inl (x1), .inl (x2)] [.inl (s2), .inl (s1), .inl (s0)] M r M' := by
  refine Ev.run 2 fd_e63 (i' := 10) (ls' := [.inl (x0), .inl (x1), .inl (x2)]) (st' := [.inl ((fx_and s0 (fx_shl s1 s2)))]) (M1 := M) rfl ?_
  refine Ev.ifF fd_e63 rfl g (decide_eq_false h) ?_
  exact k
theorem r63_11 {X : fx_Sc} {M : fx_M} {x0 x1 x2 : Int} : Ev X 63 11 [.inl (x0), .inl (x1), .inl (x2)] [] M (some (.inl (0))) M := by
  refine Ev.run 1 fd_e63 (i' := 12) (ls' := [.inl (x0), .inl (x1), .inl (x2)]) (st' := [.inl (0)]) (M1 := M) rfl ?_
  exact Ev.ret2 fd_e63 rfl rfl (by decide)
theorem r63_13 {X : fx_Sc} {M M' : fx_M} {r : Option fx_V} {x0 x1 x2 z : Int} {M1 : fx_M} (hc : Ev X 65 0 [.inl (x0), .inl (x1), fx_u] [] M (some (.inl z)) M1) (k : Ev X 63 16 [.inl (x0), .inl (x1), .inl (x2)] [.inl (z)] M1 r M') : Ev X 63 13 [.inl (x0), .inl (x1), .inl (x2)] [] M r M' := by
  refine Ev.run 2 fd_e63 (i' := 15) (ls' := [.inl (x0), .inl (x1), .inl (x2)]) (st' := [.inl (x1), .inl (x0)]) (M1 := M) rfl ?_
  refine Ev.callS (vs := [.inl (x0), .inl (x1)]) (rest := []) (r1 := (some (.inl z))) fd_e63 rfl rfl rfl (Nat.le_of_ble_eq_true rfl) (Nat.le_of_ble_eq_true rfl) hc ?_
  exact k
theorem r63_16T {X : fx_Sc} {M M' : fx_M} {r : Option fx_V} {x0 x1 x2 s0 : Int} (g : (-2147483648 ≤ (fx_and s0 (fx_xor x2 (-1))) ∧ (fx_and s0 (fx_xor x2 (-1))) < 2147483648)) (h : (fx_and s0 (fx_xor x2 (-1))) = 0) (k : Ev X 63 23 [.inl (x0), .inl (x1), .inl (x2)] [] M r M') : Ev X 63 16 [.inl (x0), .inl (x1), .inl (x2)] [.inl (s0)] M r M' := by
  refine Ev.run 4 fd_e63 (i' := 20) (ls' := [.inl (x0), .inl (x1), .inl (x2)]) (st' := [.inl ((fx_and s0 (fx_xor x2 (-1))))]) (M1 := M) rfl ?_
  refine Ev.ifT fd_e63 rfl g (decide_eq_true h) ?_
  exact k
theorem r63_16F {X : fx_Sc} {M M' : fx_M} {r : Option fx_V} {x0 x1 x2 s0 : Int} (g : (-2147483648 ≤ (fx_and s0 (fx_xor x2 (-1))) ∧ (fx_and s0 (fx_xor x2 (-1))) < 2147483648)) (h : (fx_and s0 (fx_xor x2 (-1))) ≠ 0) (k : Ev X 63 21 [.inl (x0), .inl (x1), .inl (x2)] [] M r M') : Ev X 63 16 [.inl (x0), .inl (x1), .inl (x2)] [.inl (s0)] M r M' := by
  refine Ev.run 4 fd_e63 (i' := 20) (ls' := [.inl (x0), .inl (x1), .inl (x2)]) (st' := [.inl ((fx_and s0 (fx_xor x2 (-1))))]) (M1 := M) rfl ?_
  refine Ev.ifF fd_e63 rfl g (decide_eq_false h) ?_
  exact k
theorem r63_21 {X : fx_Sc} {M : fx_M} {x0 x1 x2 : Int} : Ev X 63 21 [.inl (x0), .inl (x1), .inl (x2)] [] M (some (.inl (1))) M := by
  refine Ev.run 2 fd_e63 (i' := 24) (ls' := [.inl (x0), .inl (x1), .inl (x2)]) (st' := [.inl (1)]) (M1 := M) rfl ?_
  exact Ev.ret2 fd_e63 rfl rfl (by decide)
theorem r63_23 {X : fx_Sc} {M : fx_M} {x0 x1 x2 : Int} : Ev X 63 23 [.inl (x0), .inl (x1), .inl (x2)] [] M (some (.inl (0))) M := by
  refine Ev.run 1 fd_e63 (i' := 24) (ls' := [.inl (x0), .inl (x1), .inl (x2)]) (st' := [.inl (0)]) (M1 := M) rfl ?_
  exact Ev.ret2 fd_e63 rfl rfl (by decide)
-- 64: FoldedStrips$Pad.endFrom(IC)I
theorem fd_e64 : fd_C 64 = fd_c64 := rfl
theorem r64_0T {X : fx_Sc} {M M' : fx_M} {r : Option fx_V} {x0 x1 : Int} (g : (-2147483648 ≤ x1 ∧ x1 < 2147483648)) (h : x1 ≠ 95) (k : Ev X 64 7 [.inl (x0), .inl (x1)] [] M r M') : Ev X 64 0 [.inl (x0), .inl (x1)] [] M r M' := by
  refine Ev.run 2 fd_e64 (i' := 2) (ls' := [.inl (x0), .inl (x1)]) (st' := [.inl (95), .inl (x1)]) (M1 := M) rfl ?_
  refine Ev.icT fd_e64 rfl g (by decide) (decide_eq_true h) ?_
  exact k
theorem r64_0F {X : fx_Sc} {M M' : fx_M} {r : Option fx_V} {x0 x1 : Int} (g : (-2147483648 ≤ x1 ∧ x1 < 2147483648)) (h : x1 = 95) (k : Ev X 64 3 [.inl (x0), .inl (x1)] [] M r M') : Ev X 64 0 [.inl (x0), .inl (x1)] [] M r M' := by
  refine Ev.run 2 fd_e64 (i' := 2) (ls' := [.inl (x0), .inl (x1)]) (st' := [.inl (95), .inl (x1)]) (M1 := M) rfl ?_
  refine Ev.icF fd_e64 rfl g (by decide) (decide_eq_false (not_not_intro h)) ?_
  exact k
theorem r64_3 {X : fx_Sc} {M : fx_M} {x0 x1 : Int} : Ev X 64 3 [.inl (x0), .inl (x1)] [] M (some (.inl ((12 + x0)))) M := by
  refine Ev.run 4 fd_e64 (i' := 8) (ls' := [.inl (x0), .inl (x1)]) (st' := [.inl ((12 + x0))]) (M1 := M) rfl ?_
  exact Ev.ret1 fd_e64 rfl rfl
theorem r64_7 {X : fx_Sc} {M : fx_M} {x0 x1 : Int} : Ev X 64 7 [.inl (x0), .inl (x1)] [] M (some (.inl (x0))) M := by
  refine Ev.run 1 fd_e64 (i' := 8) (ls' := [.inl (x0), .inl (x1)]) (st' := [.inl (x0)]) (M1 := M) rfl ?_
  exact Ev.ret1 fd_e64 rfl rfl
-- 65: FoldedStrips$Pad.endsTo(IC)I
theorem fd_e65 : fd_C 65 = fd_c65 := rfl
theorem r65_0T {X : fx_Sc} {M M' : fx_M} {r : Option fx_V} {x0 x1 : Int} (g : (-2147483648 ≤ x1 ∧ x1 < 2147483648)) (h : x1 ≠ 124) (k : Ev X 65 11 [.inl (x0), .inl (x1), .inl ((fx_and 4095 (fx_shl (-2) x0)))] [] M r M') : Ev X 65 0 [.inl (x0), .inl (x1), fx_u] [] M r M' := by
  refine Ev.run 8 fd_e65 (i' := 8) (ls' := [.inl (x0), .inl (x1), .inl ((fx_and 4095 (fx_shl (-2) x0)))]) (st' := [.inl (124), .inl (x1)]) (M1 := M) rfl ?_
  refine Ev.icT fd_e65 rfl g (by decide) (decide_eq_true h) ?_
  exact k
theorem r65_0F {X : fx_Sc} {M M' : fx_M} {r : Option fx_V} {x0 x1 : Int} (g : (-2147483648 ≤ x1 ∧ x1 < 2147483648)) (h : x1 = 124) (k : Ev X 65 9 [.inl (x0), .inl (x1), .inl ((fx_and 4095 (fx_shl (-2) x0)))] [] M r M') : Ev X 65 0 [.inl (x0), .inl (x1), fx_u] [] M r M' := by
  refine Ev.run 8 fd_e65 (i' := 8) (ls' := [.inl (x0), .inl (x1), .inl ((fx_and 4095 (fx_shl (-2) x0)))]) (st' := [.inl (124), .inl (x1)]) (M1 := M) rfl ?_
  refine Ev.icF fd_e65 rfl g (by decide) (decide_eq_false (not_not_intro h)) ?_
  exact k
theorem r65_9 {X : fx_Sc} {M : fx_M} {x0 x1 x2 : Int} : Ev X 65 9 [.inl (x0), .inl (x1), .inl (x2)] [] M (some (.inl (16773120))) M := by
  refine Ev.run 1 fd_e65 (i' := 10) (ls' := [.inl (x0), .inl (x1), .inl (x2)]) (st' := [.inl (16773120)]) (M1 := M) rfl ?_
  exact Ev.ret1 fd_e65 rfl rfl
theorem r65_11T {X : fx_Sc} {M M' : fx_M} {r : Option fx_V} {x0 x1 x2 : Int} (g : (-2147483648 ≤ x1 ∧ x1 < 2147483648)) (h : x1 ≠ 94) (k : Ev X 65 16 [.inl (x0), .inl (x1), .inl (x2)] [] M r M') : Ev X 65 11 [.inl (x0), .inl (x1), .inl (x2)] [] M r M' := by
  refine Ev.run 2 fd_e65 (i' := 13) (ls' := [.inl (x0), .inl (x1), .inl (x2)]) (st' := [.inl (94), .inl (x1)]) (M1 := M) rfl ?_
  refine Ev.icT fd_e65 rfl g (by decide) (decide_eq_true h) ?_
  exact k
theorem r65_11F {X : fx_Sc} {M M' : fx_M} {r : Option fx_V} {x0 x1 x2 : Int} (g : (-2147483648 ≤ x1 ∧ x1 < 2147483648)) (h : x1 = 94) (k : Ev X 65 14 [.inl (x0), .inl (x1), .inl (x2)] [] M r M') : Ev X 65 11 [.inl (x0), .inl (x1), .inl (x2)] [] M r M' := by
  refine Ev.run 2 fd_e65 (i' := 13) (ls' := [.inl (x0), .inl (x1), .inl (x2)]) (st' := [.inl (94), .inl (x1)]) (M1 := M) rfl ?_
  refine Ev.icF fd_e65 rfl g (by decide) (decide_eq_false (not_not_intro h)) ?_
  exact k
theorem r65_14 {X : fx_Sc} {M : fx_M} {x0 x1 x2 : Int} : Ev X 65 14 [.inl (x0), .inl (x1), .inl (x2)] [] M (some (.inl (x2))) M := by
  refine Ev.run 1 fd_e65 (i' := 15) (ls' := [.inl (x0), .inl (x1), .inl (x2)]) (st' := [.inl (x2)]) (M1 := M) rfl ?_
  exact Ev.ret1 fd_e65 rfl rfl
theorem r65_16T {X : fx_Sc} {M M' : fx_M} {r : Option fx_V} {x0 x1 x2 : Int} (g : (-2147483648 ≤ x1 ∧ x1 < 2147483648)) (h : x1 ≠ 95) (k : Ev X 65 23 [.inl (x0), .inl (x1), .inl (x2)] [] M r M') : Ev X 65 16 [.inl (x0), .inl (x1), .inl (x2)] [] M r M' := by
  refine Ev.run 2 fd_e65 (i' := 18) (ls' := [.inl (x0), .inl (x1), .inl (x2)]) (st' := [.inl (95), .inl (x1)]) (M1 := M) rfl ?_
  refine Ev.icT fd_e65 rfl g (by decide) (decide_eq_true h) ?_
  exact k
theorem r65_16F {X : fx_Sc} {M M' : fx_M} {r : Option fx_V} {x0 x1 x2 : Int} (g : (-2147483648 ≤ x1 ∧ x1 < 2147483648)) (h : x1 = 95) (k : Ev X 65 19 [.inl (x0), .inl (x1), .inl (x2)] [] M r M') : Ev X 65 16 [.inl (x0), .inl (x1), .inl (x2)] [] M r M' := by
  refine Ev.run 2 fd_e65 (i' := 18) (ls' := [.inl (x0), .inl (x1), .inl (x2)]) (st' := [.inl (95), .inl (x1)]) (M1 := M) rfl ?_
  refine Ev.icF fd_e65 rfl g (by decide) (decide_eq_false (not_not_intro h)) ?_
  exact k
theorem r65_19 {X : fx_Sc} {M : fx_M} {x0 x1 x2 : Int} : Ev X 65 19 [.inl (x0), .inl (x1), .inl (x2)] [] M (some (.inl ((fx_shl x2 12)))) M := by
  refine Ev.run 4 fd_e65 (i' := 24) (ls' := [.inl (x0), .inl (x1), .inl (x2)]) (st' := [.inl ((fx_shl x2 12))]) (M1 := M) rfl ?_
  exact Ev.ret1 fd_e65 rfl rfl
theorem r65_23 {X : fx_Sc} {M : fx_M} {x0 x1 x2 : Int} : Ev X 65 23 [.inl (x0), .inl (x1), .inl (x2)] [] M (some (.inl (0))) M := by
  refine Ev.run 1 fd_e65 (i' := 24) (ls' := [.inl (x0), .inl (x1), .inl (x2)]) (st' := [.inl (0)]) (M1 := M) rfl ?_
  exact Ev.ret1 fd_e65 rfl rfl
-- 66: FoldedStrips$Pad.canClose(II)Z
theorem fd_e66 : fd_C 66 = fd_c66 := rfl
theorem r66_0 {X : fx_Sc} {M M' : fx_M} {r : Option fx_V} {x1 x2 z : Int} {M1 : fx_M} (hc : Ev X 60 0 [fx_f 17, .inl (x1), fx_u] [] M (some (.inl z)) M1) (k : Ev X 66 3 [fx_f 17, .inl (x1), .inl (x2), fx_u] [.inl (z)] M1 r M') : Ev X 66 0 [fx_f 17, .inl (x1), .inl (x2), fx_u] [] M r M' := by
  refine Ev.run 2 fd_e66 (i' := 2) (ls' := [fx_f 17, .inl (x1), .inl (x2), fx_u]) (st' := [.inl (x1), fx_f 17]) (M1 := M) rfl ?_
  refine Ev.callV (vs := [fx_f 17, .inl (x1)]) (rest := []) (r1 := (some (.inl z))) fd_e66 rfl rfl rfl (Nat.le_of_ble_eq_true rfl) (Nat.le_of_ble_eq_true rfl) rfl hc ?_
  exact k
theorem r66_3T {X : fx_Sc} {M M' : fx_M} {r : Option fx_V} {x1 x2 s0 : Int} (g : (-2147483648 ≤ s0 ∧ s0 < 2147483648)) (h : s0 ≠ (-1)) (k : Ev X 66 7 [fx_f 17, .inl (x1), .inl (x2), fx_u] [] M r M') : Ev X 66 3 [fx_f 17, .inl (x1), .inl (x2), fx_u] [.inl (s0)] M r M' := by
  refine Ev.run 1 fd_e66 (i' := 4) (ls' := [fx_f 17, .inl (x1), .inl (x2), fx_u]) (st' := [.inl ((-1)), .inl (s0)]) (M1 := M) rfl ?_
  refine Ev.icT fd_e66 rfl g (by decide) (decide_eq_true h) ?_
  exact k
theorem r66_3F {X : fx_Sc} {M M' : fx_M} {r : Option fx_V} {x1 x2 s0 : Int} (g : (-2147483648 ≤ s0 ∧ s0 < 2147483648)) (h : s0 = (-1)) (k : Ev X 66 5 [fx_f 17, .inl (x1), .inl (x2), fx_u] [] M r M') : Ev X 66 3 [fx_f 17, .inl (x1), .inl (x2), fx_u] [.inl (s0)] M r M' := by
  refine Ev.run 1 fd_e66 (i' := 4) (ls' := [fx_f 17, .inl (x1), .inl (x2), fx_u]) (st' := [.inl ((-1)), .inl (s0)]) (M1 := M) rfl ?_
  refine Ev.icF fd_e66 rfl g (by decide) (decide_eq_false (not_not_intro h)) ?_
  exact k
theorem r66_5 {X : fx_Sc} {M : fx_M} {x1 x2 : Int} : Ev X 66 5 [fx_f 17, .inl (x1), .inl (x2), fx_u] [] M (some (.inl (0))) M := by
  refine Ev.run 1 fd_e66 (i' := 6) (ls' := [fx_f 17, .inl (x1), .inl (x2), fx_u]) (st' := [.inl (0)]) (M1 := M) rfl ?_
  exact Ev.ret2 fd_e66 rfl rfl (by decide)
theorem r66_7 {X : fx_Sc} {M M' : fx_M} {r : Option fx_V} {x1 x2 z : Int} {M1 : fx_M} (hc : Ev X 60 0 [fx_f 17, .inl ((x1 - 2)), fx_u] [] M (some (.inl z)) M1) (k : Ev X 66 12 [fx_f 17, .inl (x1), .inl (x2), fx_u] [.inl (z)] M1 r M') : Ev X 66 7 [fx_f 17, .inl (x1), .inl (x2), fx_u] [] M r M' := by
  refine Ev.run 4 fd_e66 (i' := 11) (ls' := [fx_f 17, .inl (x1), .inl (x2), fx_u]) (st' := [.inl ((x1 - 2)), fx_f 17]) (M1 := M) rfl ?_
  refine Ev.callV (vs := [fx_f 17, .inl ((x1 - 2))]) (rest := []) (r1 := (some (.inl z))) fd_e66 rfl rfl rfl (Nat.le_of_ble_eq_true rfl) (Nat.le_of_ble_eq_true rfl) rfl hc ?_
  exact k
theorem r66_12 {X : fx_Sc} {M M' : fx_M} {r : Option fx_V} {x1 x2 s0 z : Int} {M1 : fx_M} (hc : Ev X 61 0 [fx_f 17, .inl ((x1 - 1))] [] M (some (.inl z)) M1) (k : Ev X 66 17 [fx_f 17, .inl (x1), .inl (x2), fx_u] [.inl (z), .inl (s0)] M1 r M') : Ev X 66 12 [fx_f 17, .inl (x1), .inl (x2), fx_u] [.inl (s0)] M r M' := by
  refine Ev.run 4 fd_e66 (i' := 16) (ls' := [fx_f 17, .inl (x1), .inl (x2), fx_u]) (st' := [.inl ((x1 - 1)), fx_f 17, .inl (s0)]) (M1 := M) rfl ?_
  refine Ev.callV (vs := [fx_f 17, .inl ((x1 - 1))]) (rest := [.inl (s0)]) (r1 := (some (.inl z))) fd_e66 rfl rfl rfl (Nat.le_of_ble_eq_true rfl) (Nat.le_of_ble_eq_true rfl) rfl hc ?_
  exact k
theorem r66_17 {X : fx_Sc} {M M' : fx_M} {r : Option fx_V} {x1 x2 s0 s1 z : Int} {M1 : fx_M} (hc : Ev X 65 0 [.inl (s0), .inl (s1), fx_u] [] M (some (.inl z)) M1) (k : Ev X 66 18 [fx_f 17, .inl (x1), .inl (x2), fx_u] [.inl (z)] M1 r M') : Ev X 66 17 [fx_f 17, .inl (x1), .inl (x2), fx_u] [.inl (s1), .inl (s0)] M r M' := by
  refine Ev.callS (vs := [.inl (s0), .inl (s1)]) (rest := []) (r1 := (some (.inl z))) fd_e66 rfl rfl rfl (Nat.le_of_ble_eq_true rfl) (Nat.le_of_ble_eq_true rfl) hc ?_
  exact k
theorem r66_18 {X : fx_Sc} {M M' : fx_M} {r : Option fx_V} {x1 x2 s0 z : Int} {M1 : fx_M} (hc : Ev X 67 0 [fx_f 17, .inl ((x1 - 2)), fx_u] [] M (some (.inl z)) M1) (k : Ev X 66 30 [fx_f 17, .inl (x1), .inl (x2), .inl ((fx_and s0 (fx_xor x2 (-1))))] [.inl (z), .inl (1), .inl ((fx_and s0 (fx_xor x2 (-1))))] M1 r M') : Ev X 66 18 [fx_f 17, .inl (x1), .inl (x2), fx_u] [.inl (s0)] M r M' := by
  refine Ev.run 11 fd_e66 (i' := 29) (ls' := [fx_f 17, .inl (x1), .inl (x2), .inl ((fx_and s0 (fx_xor x2 (-1))))]) (st' := [.inl ((x1 - 2)), fx_f 17, .inl (1), .inl ((fx_and s0 (fx_xor x2 (-1))))]) (M1 := M) rfl ?_
  refine Ev.callV (vs := [fx_f 17, .inl ((x1 - 2))]) (rest := [.inl (1), .inl ((fx_and s0 (fx_xor x2 (-1))))]) (r1 := (some (.inl z))) fd_e66 rfl rfl rfl (Nat.le_of_ble_eq_true rfl) (Nat.le_of_ble_eq_true rfl) rfl hc ?_
  exact k
theorem r66_30T {X : fx_Sc} {M M' : fx_M} {r : Option fx_V} {x1 x2 x3 s0 s1 s2 : Int} (g : (-2147483648 ≤ (fx_and s0 (fx_shl s1 s2)) ∧ (fx_and s0 (fx_shl s1 s2)) < 2147483648)) (h : (fx_and s0 (fx_shl s1 s2)) = 0) (k : Ev X 66 35 [fx_f 17, .inl (x1), .inl (x2), .inl (x3)] [] M r M') : Ev X 66 30 [fx_f 17, .inl (x1), .inl (x2), .inl (x3)] [.inl (s2), .inl (s1), .inl (s0)] M r M' := by
  refine Ev.run 2 fd_e66 (i' := 32) (ls' := [fx_f 17, .inl (x1), .inl (x2), .inl (x3)]) (st' := [.inl ((fx_and s0 (fx_shl s1 s2)))]) (M1 := M) rfl ?_
  refine Ev.ifT fd_e66 rfl g (decide_eq_true h) ?_
  exact k
theorem r66_30F {X : fx_Sc} {M M' : fx_M} {r : Option fx_V} {x1 x2 x3 s0 s1 s2 : Int} (g : (-2147483648 ≤ (fx_and s0 (fx_shl s1 s2)) ∧ (fx_and s0 (fx_shl s1 s2)) < 2147483648)) (h : (fx_and s0 (fx_shl s1 s2)) ≠ 0) (k : Ev X 66 33 [fx_f 17, .inl (x1), .inl (x2), .inl (x3)] [] M r M') : Ev X 66 30 [fx_f 17, .inl (x1), .inl (x2), .inl (x3)] [.inl (s2), .inl (s1), .inl (s0)] M r M' := by
  refine Ev.run 2 fd_e66 (i' := 32) (ls' := [fx_f 17, .inl (x1), .inl (x2), .inl (x3)]) (st' := [.inl ((fx_and s0 (fx_shl s1 s2)))]) (M1 := M) rfl ?_
  refine Ev.ifF fd_e66 rfl g (decide_eq_false h) ?_
  exact k
theorem r66_33 {X : fx_Sc} {M : fx_M} {x1 x2 x3 : Int} : Ev X 66 33 [fx_f 17, .inl (x1), .inl (x2), .inl (x3)] [] M (some (.inl (1))) M := by
  refine Ev.run 2 fd_e66 (i' := 36) (ls' := [fx_f 17, .inl (x1), .inl (x2), .inl (x3)]) (st' := [.inl (1)]) (M1 := M) rfl ?_
  exact Ev.ret2 fd_e66 rfl rfl (by decide)
theorem r66_35 {X : fx_Sc} {M : fx_M} {x1 x2 x3 : Int} : Ev X 66 35 [fx_f 17, .inl (x1), .inl (x2), .inl (x3)] [] M (some (.inl (0))) M := by
  refine Ev.run 1 fd_e66 (i' := 36) (ls' := [fx_f 17, .inl (x1), .inl (x2), .inl (x3)]) (st' := [.inl (0)]) (M1 := M) rfl ?_
  exact Ev.ret2 fd_e66 rfl rfl (by decide)
-- 67: FoldedStrips$Pad.secondEnd(I)I
theorem fd_e67 : fd_C 67 = fd_c67 := rfl
theorem r67_0 {X : fx_Sc} {M M' : fx_M} {r : Option fx_V} {x1 z : Int} {M1 : fx_M} (hc : Ev X 60 0 [fx_f 17, .inl ((x1 + 2)), fx_u] [] M (some (.inl z)) M1) (k : Ev X 67 5 [fx_f 17, .inl (x1), fx_u] [.inl (z)] M1 r M') : Ev X 67 0 [fx_f 17, .inl (x1), fx_u] [] M r M' := by
  refine Ev.run 4 fd_e67 (i' := 4) (ls' := [fx_f 17, .inl (x1), fx_u]) (st' := [.inl ((x1 + 2)), fx_f 17]) (M1 := M) rfl ?_
  refine Ev.callV (vs := [fx_f 17, .inl ((x1 + 2))]) (rest := []) (r1 := (some (.inl z))) fd_e67 rfl rfl rfl (Nat.le_of_ble_eq_true rfl) (Nat.le_of_ble_eq_true rfl) rfl hc ?_
  exact k
theorem r67_5 {X : fx_Sc} {M M' : fx_M} {r : Option fx_V} {x1 s0 z : Int} {M1 : fx_M} (hc : Ev X 61 0 [fx_f 17, .inl ((x1 + 1))] [] M (some (.inl z)) M1) (k : Ev X 67 11 [fx_f 17, .inl (x1), .inl (s0)] [.inl (z)] M1 r M') : Ev X 67 5 [fx_f 17, .inl (x1), fx_u] [.inl (s0)] M r M' := by
  refine Ev.run 5 fd_e67 (i' := 10) (ls' := [fx_f 17, .inl (x1), .inl (s0)]) (st' := [.inl ((x1 + 1)), fx_f 17]) (M1 := M) rfl ?_
  refine Ev.callV (vs := [fx_f 17, .inl ((x1 + 1))]) (rest := []) (r1 := (some (.inl z))) fd_e67 rfl rfl rfl (Nat.le_of_ble_eq_true rfl) (Nat.le_of_ble_eq_true rfl) rfl hc ?_
  exact k
theorem r67_11T {X : fx_Sc} {M M' : fx_M} {r : Option fx_V} {x1 x2 s0 : Int} (g : (-2147483648 ≤ s0 ∧ s0 < 2147483648)) (h : s0 ≠ 94) (k : Ev X 67 15 [fx_f 17, .inl (x1), .inl (x2)] [] M r M') : Ev X 67 11 [fx_f 17, .inl (x1), .inl (x2)] [.inl (s0)] M r M' := by
  refine Ev.run 1 fd_e67 (i' := 12) (ls' := [fx_f 17, .inl (x1), .inl (x2)]) (st' := [.inl (94), .inl (s0)]) (M1 := M) rfl ?_
  refine Ev.icT fd_e67 rfl g (by decide) (decide_eq_true h) ?_
  exact k
theorem r67_11F {X : fx_Sc} {M M' : fx_M} {r : Option fx_V} {x1 x2 s0 : Int} (g : (-2147483648 ≤ s0 ∧ s0 < 2147483648)) (h : s0 = 94) (k : Ev X 67 13 [fx_f 17, .inl (x1), .inl (x2)] [] M r M') : Ev X 67 11 [fx_f 17, .inl (x1), .inl (x2)] [.inl (s0)] M r M' := by
  refine Ev.run 1 fd_e67 (i' := 12) (ls' := [fx_f 17, .inl (x1), .inl (x2)]) (st' := [.inl (94), .inl (s0)]) (M1 := M) rfl ?_
  refine Ev.icF fd_e67 rfl g (by decide) (decide_eq_false (not_not_intro h)) ?_
  exact k
theorem r67_13 {X : fx_Sc} {M : fx_M} {x1 x2 : Int} : Ev X 67 13 [fx_f 17, .inl (x1), .inl (x2)] [] M (some (.inl (x2))) M := by
  refine Ev.run 2 fd_e67 (i' := 18) (ls' := [fx_f 17, .inl (x1), .inl (x2)]) (st' := [.inl (x2)]) (M1 := M) rfl ?_
  exact Ev.ret1 fd_e67 rfl rfl
theorem r67_15 {X : fx_Sc} {M : fx_M} {x1 x2 : Int} : Ev X 67 15 [fx_f 17, .inl (x1), .inl (x2)] [] M (some (.inl ((12 + x2)))) M := by
  refine Ev.run 3 fd_e67 (i' := 18) (ls' := [fx_f 17, .inl (x1), .inl (x2)]) (st' := [.inl ((12 + x2))]) (M1 := M) rfl ?_
  exact Ev.ret1 fd_e67 rfl rfl
-- 68: FoldedStrips$Pad.firstEnd(I)I
theorem fd_e68 : fd_C 68 = fd_c68 := rfl
theorem r68_0 {X : fx_Sc} {M M' : fx_M} {r : Option fx_V} {x1 z : Int} {M1 : fx_M} (hc : Ev X 60 0 [fx_f 17, .inl (x1), fx_u] [] M (some (.inl z)) M1) (k : Ev X 68 3 [fx_f 17, .inl (x1)] [.inl (z)] M1 r M') : Ev X 68 0 [fx_f 17, .inl (x1)] [] M r M' := by
  refine Ev.run 2 fd_e68 (i' := 2) (ls' := [fx_f 17, .inl (x1)]) (st' := [.inl (x1), fx_f 17]) (M1 := M) rfl ?_
  refine Ev.callV (vs := [fx_f 17, .inl (x1)]) (rest := []) (r1 := (some (.inl z))) fd_e68 rfl rfl rfl (Nat.le_of_ble_eq_true rfl) (Nat.le_of_ble_eq_true rfl) rfl hc ?_
  exact k
theorem r68_3 {X : fx_Sc} {M M' : fx_M} {r : Option fx_V} {x1 s0 z : Int} {M1 : fx_M} (hc : Ev X 61 0 [fx_f 17, .inl ((x1 + 1))] [] M (some (.inl z)) M1) (k : Ev X 68 8 [fx_f 17, .inl (x1)] [.inl (z), .inl (s0)] M1 r M') : Ev X 68 3 [fx_f 17, .inl (x1)] [.inl (s0)] M r M' := by
  refine Ev.run 4 fd_e68 (i' := 7) (ls' := [fx_f 17, .inl (x1)]) (st' := [.inl ((x1 + 1)), fx_f 17, .inl (s0)]) (M1 := M) rfl ?_
  refine Ev.callV (vs := [fx_f 17, .inl ((x1 + 1))]) (rest := [.inl (s0)]) (r1 := (some (.inl z))) fd_e68 rfl rfl rfl (Nat.le_of_ble_eq_true rfl) (Nat.le_of_ble_eq_true rfl) rfl hc ?_
  exact k
theorem r68_8 {X : fx_Sc} {M M' : fx_M} {r : Option fx_V} {x1 s0 s1 z : Int} {M1 : fx_M} (hc : Ev X 64 0 [.inl (s0), .inl (s1)] [] M (some (.inl z)) M1) (k : Ev X 68 9 [fx_f 17, .inl (x1)] [.inl (z)] M1 r M') : Ev X 68 8 [fx_f 17, .inl (x1)] [.inl (s1), .inl (s0)] M r M' := by
  refine Ev.callS (vs := [.inl (s0), .inl (s1)]) (rest := []) (r1 := (some (.inl z))) fd_e68 rfl rfl rfl (Nat.le_of_ble_eq_true rfl) (Nat.le_of_ble_eq_true rfl) hc ?_
  exact k
theorem r68_9 {X : fx_Sc} {M : fx_M} {x1 s0 : Int} : Ev X 68 9 [fx_f 17, .inl (x1)] [.inl (s0)] M (some (.inl (s0))) M := by
  exact Ev.ret1 fd_e68 rfl rfl
-- 69: FoldedStrips$Pad.drawOnto(LFoldedStrips$Strip;I)V
theorem fd_e69 : fd_C 69 = fd_c69 := rfl
theorem r69_0 {X : fx_Sc} {M M' : fx_M} {r : Option fx_V} {a : Nat} {x2 : Int} (k : Ev X 69 2 [fx_f 17, fx_f a, .inl (x2), .inl (0)] [] M r M') : Ev X 69 0 [fx_f 17, fx_f a, .inl (x2), fx_u] [] M r M' := by
  refine Ev.run 2 fd_e69 (i' := 2) (ls' := [fx_f 17, fx_f a, .inl (x2), .inl (0)]) (st' := []) (M1 := M) rfl ?_
  exact k
theorem r69_2T {X : fx_Sc} {M M' : fx_M} {r : Option fx_V} {a : Nat} {x2 x3 : Int} (g : (-2147483648 ≤ x3 ∧ x3 < 2147483648) ∧ (-2147483648 ≤ (M 17 1) ∧ (M 17 1) < 2147483648)) (h : (M 17 1) ≤ x3) (k : Ev X 69 17 [fx_f 17, fx_f a, .inl (x2), .inl (x3)] [] M r M') : Ev X 69 2 [fx_f 17, fx_f a, .inl (x2), .inl (x3)] [] M r M' := by
  refine Ev.run 3 fd_e69 (i' := 5) (ls' := [fx_f 17, fx_f a, .inl (x2), .inl (x3)]) (st' := [.inl ((M 17 1)), .inl (x3)]) (M1 := M) rfl ?_
  refine Ev.icT fd_e69 rfl g.1 g.2 (decide_eq_true h) ?_
  exact k
theorem r69_2F {X : fx_Sc} {M M' : fx_M} {r : Option fx_V} {a : Nat} {x2 x3 : Int} (g : (-2147483648 ≤ x3 ∧ x3 < 2147483648) ∧ (-2147483648 ≤ (M 17 1) ∧ (M 17 1) < 2147483648)) (h : x3 < (M 17 1)) (k : Ev X 69 6 [fx_f 17, fx_f a, .inl (x2), .inl (x3)] [] M r M') : Ev X 69 2 [fx_f 17, fx_f a, .inl (x2), .inl (x3)] [] M r M' := by
  refine Ev.run 3 fd_e69 (i' := 5) (ls' := [fx_f 17, fx_f a, .inl (x2), .inl (x3)]) (st' := [.inl ((M 17 1)), .inl (x3)]) (M1 := M) rfl ?_
  refine Ev.icF fd_e69 rfl g.1 g.2 (decide_eq_false (Int.not_le.mpr h)) ?_
  exact k
theorem r69_6 {X : fx_Sc} {M M' : fx_M} {r : Option fx_V} {a : Nat} {x2 x3 z : Int} {M1 : fx_M} (hc : Ev X 68 0 [fx_f 17, .inl (x3)] [] M (some (.inl z)) M1) (k : Ev X 69 11 [fx_f 17, fx_f a, .inl (x2), .inl (x3)] [.inl (z), .inl (x2), fx_f a] M1 r M') : Ev X 69 6 [fx_f 17, fx_f a, .inl (x2), .inl (x3)] [] M r M' := by
  refine Ev.run 4 fd_e69 (i' := 10) (ls' := [fx_f 17, fx_f a, .inl (x2), .inl (x3)]) (st' := [.inl (x3), fx_f 17, .inl (x2), fx_f a]) (M1 := M) rfl ?_
  refine Ev.callV (vs := [fx_f 17, .inl (x3)]) (rest := [.inl (x2), fx_f a]) (r1 := (some (.inl z))) fd_e69 rfl rfl rfl (Nat.le_of_ble_eq_true rfl) (Nat.le_of_ble_eq_true rfl) rfl hc ?_
  exact k
theorem r69_11 {X : fx_Sc} {M M' : fx_M} {r : Option fx_V} {a : Nat} {x2 x3 s1 s2 z : Int} {M1 : fx_M} (hc : Ev X 67 0 [fx_f 17, .inl (x3), fx_u] [] M (some (.inl z)) M1) (k : Ev X 69 14 [fx_f 17, fx_f a, .inl (x2), .inl (x3)] [.inl (z), .inl (s2), .inl (s1), fx_f a] M1 r M') : Ev X 69 11 [fx_f 17, fx_f a, .inl (x2), .inl (x3)] [.inl (s2), .inl (s1), fx_f a] M r M' := by
  refine Ev.run 2 fd_e69 (i' := 13) (ls' := [fx_f 17, fx_f a, .inl (x2), .inl (x3)]) (st' := [.inl (x3), fx_f 17, .inl (s2), .inl (s1), fx_f a]) (M1 := M) rfl ?_
  refine Ev.callV (vs := [fx_f 17, .inl (x3)]) (rest := [.inl (s2), .inl (s1), fx_f a]) (r1 := (some (.inl z))) fd_e69 rfl rfl rfl (Nat.le_of_ble_eq_true rfl) (Nat.le_of_ble_eq_true rfl) rfl hc ?_
  exact k
theorem r69_14 {X : fx_Sc} {M M' : fx_M} {r : Option fx_V} {a : Nat} {x2 x3 s1 s2 s3 : Int} {M1 : fx_M} (ha : fd_isS a) (hc : Ev X 80 0 [fx_f a, .inl (s1), .inl (s2), .inl (s3)] [] M none M1) (k : Ev X 69 15 [fx_f 17, fx_f a, .inl (x2), .inl (x3)] [] M1 r M') : Ev X 69 14 [fx_f 17, fx_f a, .inl (x2), .inl (x3)] [.inl (s3), .inl (s2), .inl (s1), fx_f a] M r M' := by
  refine Ev.callV (vs := [fx_f a, .inl (s1), .inl (s2), .inl (s3)]) (rest := []) (r1 := none) fd_e69 rfl rfl rfl (Nat.le_of_ble_eq_true rfl) (Nat.le_of_ble_eq_true rfl) (fd_rcvS ha) hc ?_
  exact k
theorem r69_15 {X : fx_Sc} {M M' : fx_M} {r : Option fx_V} {a : Nat} {x2 x3 : Int} (k : Ev X 69 2 [fx_f 17, fx_f a, .inl (x2), .inl ((x3 + 4))] [] M r M') : Ev X 69 15 [fx_f 17, fx_f a, .inl (x2), .inl (x3)] [] M r M' := by
  refine Ev.run 2 fd_e69 (i' := 2) (ls' := [fx_f 17, fx_f a, .inl (x2), .inl ((x3 + 4))]) (st' := []) (M1 := M) rfl ?_
  exact k
theorem r69_17 {X : fx_Sc} {M : fx_M} {a : Nat} {x2 x3 : Int} : Ev X 69 17 [fx_f 17, fx_f a, .inl (x2), .inl (x3)] [] M none M := by
  exact Ev.retv fd_e69 rfl rfl
-- 70: FoldedStrips$Pad.makeEmpty()V
theorem fd_e70 : fd_C 70 = fd_c70 := rfl
theorem r70_0 {X : fx_Sc} {M : fx_M} : Ev X 70 0 [fx_f 17] [] M none (fx_set M 17 (fx_up (M 17) 1 0)) := by
  refine Ev.run 3 fd_e70 (i' := 3) (ls' := [fx_f 17]) (st' := []) (M1 := (fx_set M 17 (fx_up (M 17) 1 0))) rfl ?_
  exact Ev.retv fd_e70 rfl rfl
-- 71: FoldedStrips$Pad.length()I
theorem fd_e71 : fd_C 71 = fd_c71 := rfl
theorem r71_0 {X : fx_Sc} {M : fx_M} : Ev X 71 0 [fx_f 17] [] M (some (.inl ((M 17 1)))) M := by
  refine Ev.run 2 fd_e71 (i' := 2) (ls' := [fx_f 17]) (st' := [.inl ((M 17 1))]) (M1 := M) rfl ?_
  exact Ev.ret1 fd_e71 rfl rfl
-- 72: FoldedStrips$Pad.charactersIn(J)I
theorem fd_e72 : fd_C 72 = fd_c72 := rfl
theorem r72_0 {X : fx_Sc} {M M' : fx_M} {r : Option fx_V} {y0 : Int64} (k : Ev X 72 6 [.inr (.inl (y0)), fx_u, .inr (.inl (y0)), fx_u, .inl (0), .inl (0), fx_u] [] M r M') : Ev X 72 0 [.inr (.inl (y0)), fx_u, fx_u, fx_u, fx_u, fx_u, fx_u] [] M r M' := by
  refine Ev.run 6 fd_e72 (i' := 6) (ls' := [.inr (.inl (y0)), fx_u, .inr (.inl (y0)), fx_u, .inl (0), .inl (0), fx_u]) (st' := []) (M1 := M) rfl ?_
  exact k
theorem r72_6T {X : fx_Sc} {M M' : fx_M} {r : Option fx_V} {x4 x5 : Int} {v6 : fx_V} {y0 y2 : Int64} (g : (-2147483648 ≤ x5 ∧ x5 < 2147483648)) (h : 8 ≤ x5) (k : Ev X 72 39 [.inr (.inl (y0)), fx_u, .inr (.inl (y2)), fx_u, .inl (x4), .inl (x5), v6] [] M r M') : Ev X 72 6 [.inr (.inl (y0)), fx_u, .inr (.inl (y2)), fx_u, .inl (x4), .inl (x5), v6] [] M r M' := by
  refine Ev.run 2 fd_e72 (i' := 8) (ls' := [.inr (.inl (y0)), fx_u, .inr (.inl (y2)), fx_u, .inl (x4), .inl (x5), v6]) (st' := [.inl (8), .inl (x5)]) (M1 := M) rfl ?_
  refine Ev.icT fd_e72 rfl g (by decide) (decide_eq_true h) ?_
  exact k
theorem r72_6F {X : fx_Sc} {M M' : fx_M} {r : Option fx_V} {x4 x5 : Int} {v6 : fx_V} {y0 y2 : Int64} (g : (-2147483648 ≤ x5 ∧ x5 < 2147483648)) (h : x5 < 8) (k : Ev X 72 9 [.inr (.inl (y0)), fx_u, .inr (.inl (y2)), fx_u, .inl (x4), .inl (x5), v6] [] M r M') : Ev X 72 6 [.inr (.inl (y0)), fx_u, .inr (.inl (y2)), fx_u, .inl (x4), .inl (x5), v6] [] M r M' := by
  refine Ev.run 2 fd_e72 (i' := 8) (ls' := [.inr (.inl (y0)), fx_u, .inr (.inl (y2)), fx_u, .inl (x4), .inl (x5), v6]) (st' := [.inl (8), .inl (x5)]) (M1 := M) rfl ?_
  refine Ev.icF fd_e72 rfl g (by decide) (decide_eq_false (Int.not_le.mpr h)) ?_
  exact k
theorem r72_9T {X : fx_Sc} {M M' : fx_M} {r : Option fx_V} {x4 x5 : Int} {v6 : fx_V} {y0 y2 : Int64} (g : (-2147483648 ≤ ((y2 &&& Int64.ofInt 255)).toInt32.toInt ∧ ((y2 &&& Int64.ofInt 255)).toInt32.toInt < 2147483648)) (h : ((y2 &&& Int64.ofInt 255)).toInt32.toInt ≠ 0) (k : Ev X 72 24 [.inr (.inl (y0)), fx_u, .inr (.inl (y2)), fx_u, .inl (x4), .inl (x5), .inl (((y2 &&& Int64.ofInt 255)).toInt32.toInt)] [] M r M') : Ev X 72 9 [.inr (.inl (y0)), fx_u, .inr (.inl (y2)), fx_u, .inl (x4), .inl (x5), v6] [] M r M' := by
  refine Ev.run 6 fd_e72 (i' := 15) (ls' := [.inr (.inl (y0)), fx_u, .inr (.inl (y2)), fx_u, .inl (x4), .inl (x5), .inl (((y2 &&& Int64.ofInt 255)).toInt32.toInt)]) (st' := [.inl (((y2 &&& Int64.ofInt 255)).toInt32.toInt)]) (M1 := M) rfl ?_
  refine Ev.ifT fd_e72 rfl g (decide_eq_true h) ?_
  exact k
theorem r72_9F {X : fx_Sc} {M M' : fx_M} {r : Option fx_V} {x4 x5 : Int} {v6 : fx_V} {y0 y2 : Int64} (g : (-2147483648 ≤ ((y2 &&& Int64.ofInt 255)).toInt32.toInt ∧ ((y2 &&& Int64.ofInt 255)).toInt32.toInt < 2147483648)) (h : ((y2 &&& Int64.ofInt 255)).toInt32.toInt = 0) (k : Ev X 72 16 [.inr (.inl (y0)), fx_u, .inr (.inl (y2)), fx_u, .inl (x4), .inl (x5), .inl (((y2 &&& Int64.ofInt 255)).toInt32.toInt)] [] M r M') : Ev X 72 9 [.inr (.inl (y0)), fx_u, .inr (.inl (y2)), fx_u, .inl (x4), .inl (x5), v6] [] M r M' := by
  refine Ev.run 6 fd_e72 (i' := 15) (ls' := [.inr (.inl (y0)), fx_u, .inr (.inl (y2)), fx_u, .inl (x4), .inl (x5), .inl (((y2 &&& Int64.ofInt 255)).toInt32.toInt)]) (st' := [.inl (((y2 &&& Int64.ofInt 255)).toInt32.toInt)]) (M1 := M) rfl ?_
  refine Ev.ifF fd_e72 rfl g (decide_eq_false (not_not_intro h)) ?_
  exact k
theorem r72_16T {X : fx_Sc} {M M' : fx_M} {r : Option fx_V} {x4 x5 x6 : Int} {y0 y2 : Int64} (g : (-2147483648 ≤ (lg_cmp (y2) (Int64.ofInt 0)).toInt ∧ (lg_cmp (y2) (Int64.ofInt 0)).toInt < 2147483648)) (h : (lg_cmp (y2) (Int64.ofInt 0)).toInt ≠ 0) (k : Ev X 72 22 [.inr (.inl (y0)), fx_u, .inr (.inl (y2)), fx_u, .inl (x4), .inl (x5), .inl (x6)] [] M r M') : Ev X 72 16 [.inr (.inl (y0)), fx_u, .inr (.inl (y2)), fx_u, .inl (x4), .inl (x5), .inl (x6)] [] M r M' := by
  refine Ev.run 3 fd_e72 (i' := 19) (ls' := [.inr (.inl (y0)), fx_u, .inr (.inl (y2)), fx_u, .inl (x4), .inl (x5), .inl (x6)]) (st' := [.inl ((lg_cmp (y2) (Int64.ofInt 0)).toInt)]) (M1 := M) rfl ?_
  refine Ev.ifT fd_e72 rfl g (decide_eq_true h) ?_
  exact k
theorem r72_16F {X : fx_Sc} {M M' : fx_M} {r : Option fx_V} {x4 x5 x6 : Int} {y0 y2 : Int64} (g : (-2147483648 ≤ (lg_cmp (y2) (Int64.ofInt 0)).toInt ∧ (lg_cmp (y2) (Int64.ofInt 0)).toInt < 2147483648)) (h : (lg_cmp (y2) (Int64.ofInt 0)).toInt = 0) (k : Ev X 72 20 [.inr (.inl (y0)), fx_u, .inr (.inl (y2)), fx_u, .inl (x4), .inl (x5), .inl (x6)] [] M r M') : Ev X 72 16 [.inr (.inl (y0)), fx_u, .inr (.inl (y2)), fx_u, .inl (x4), .inl (x5), .inl (x6)] [] M r M' := by
  refine Ev.run 3 fd_e72 (i' := 19) (ls' := [.inr (.inl (y0)), fx_u, .inr (.inl (y2)), fx_u, .inl (x4), .inl (x5), .inl (x6)]) (st' := [.inl ((lg_cmp (y2) (Int64.ofInt 0)).toInt)]) (M1 := M) rfl ?_
  refine Ev.ifF fd_e72 rfl g (decide_eq_false (not_not_intro h)) ?_
  exact k
theorem r72_20 {X : fx_Sc} {M : fx_M} {x4 x5 x6 : Int} {y0 y2 : Int64} : Ev X 72 20 [.inr (.inl (y0)), fx_u, .inr (.inl (y2)), fx_u, .inl (x4), .inl (x5), .inl (x6)] [] M (some (.inl (x4))) M := by
  refine Ev.run 2 fd_e72 (i' := 23) (ls' := [.inr (.inl (y0)), fx_u, .inr (.inl (y2)), fx_u, .inl (x4), .inl (x5), .inl (x6)]) (st' := [.inl (x4)]) (M1 := M) rfl ?_
  exact Ev.ret1 fd_e72 rfl rfl
theorem r72_22 {X : fx_Sc} {M : fx_M} {x4 x5 x6 : Int} {y0 y2 : Int64} : Ev X 72 22 [.inr (.inl (y0)), fx_u, .inr (.inl (y2)), fx_u, .inl (x4), .inl (x5), .inl (x6)] [] M (some (.inl (0))) M := by
  refine Ev.run 1 fd_e72 (i' := 23) (ls' := [.inr (.inl (y0)), fx_u, .inr (.inl (y2)), fx_u, .inl (x4), .inl (x5), .inl (x6)]) (st' := [.inl (0)]) (M1 := M) rfl ?_
  exact Ev.ret1 fd_e72 rfl rfl
theorem r72_24T {X : fx_Sc} {M M' : fx_M} {r : Option fx_V} {x4 x5 x6 : Int} {y0 y2 : Int64} (g : (-2147483648 ≤ x6 ∧ x6 < 2147483648)) (h : x6 < 33) (k : Ev X 72 30 [.inr (.inl (y0)), fx_u, .inr (.inl (y2)), fx_u, .inl (x4), .inl (x5), .inl (x6)] [] M r M') : Ev X 72 24 [.inr (.inl (y0)), fx_u, .inr (.inl (y2)), fx_u, .inl (x4), .inl (x5), .inl (x6)] [] M r M' := by
  refine Ev.run 2 fd_e72 (i' := 26) (ls' := [.inr (.inl (y0)), fx_u, .inr (.inl (y2)), fx_u, .inl (x4), .inl (x5), .inl (x6)]) (st' := [.inl (33), .inl (x6)]) (M1 := M) rfl ?_
  refine Ev.icT fd_e72 rfl g (by decide) (decide_eq_true h) ?_
  exact k
theorem r72_24F {X : fx_Sc} {M M' : fx_M} {r : Option fx_V} {x4 x5 x6 : Int} {y0 y2 : Int64} (g : (-2147483648 ≤ x6 ∧ x6 < 2147483648)) (h : 33 ≤ x6) (k : Ev X 72 27 [.inr (.inl (y0)), fx_u, .inr (.inl (y2)), fx_u, .inl (x4), .inl (x5), .inl (x6)] [] M r M') : Ev X 72 24 [.inr (.inl (y0)), fx_u, .inr (.inl (y2)), fx_u, .inl (x4), .inl (x5), .inl (x6)] [] M r M' := by
  refine Ev.run 2 fd_e72 (i' := 26) (ls' := [.inr (.inl (y0)), fx_u, .inr (.inl (y2)), fx_u, .inl (x4), .inl (x5), .inl (x6)]) (st' := [.inl (33), .inl (x6)]) (M1 := M) rfl ?_
  refine Ev.icF fd_e72 rfl g (by decide) (decide_eq_false (Int.not_lt.mpr h)) ?_
  exact k
theorem r72_27T {X : fx_Sc} {M M' : fx_M} {r : Option fx_V} {x4 x5 x6 : Int} {y0 y2 : Int64} (g : (-2147483648 ≤ x6 ∧ x6 < 2147483648)) (h : x6 ≤ 126) (k : Ev X 72 32 [.inr (.inl (y0)), fx_u, .inr (.inl (y2)), fx_u, .inl (x4), .inl (x5), .inl (x6)] [] M r M') : Ev X 72 27 [.inr (.inl (y0)), fx_u, .inr (.inl (y2)), fx_u, .inl (x4), .inl (x5), .inl (x6)] [] M r M' := by
  refine Ev.run 2 fd_e72 (i' := 29) (ls' := [.inr (.inl (y0)), fx_u, .inr (.inl (y2)), fx_u, .inl (x4), .inl (x5), .inl (x6)]) (st' := [.inl (126), .inl (x6)]) (M1 := M) rfl ?_
  refine Ev.icT fd_e72 rfl g (by decide) (decide_eq_true h) ?_
  exact k
theorem r72_27F {X : fx_Sc} {M M' : fx_M} {r : Option fx_V} {x4 x5 x6 : Int} {y0 y2 : Int64} (g : (-2147483648 ≤ x6 ∧ x6 < 2147483648)) (h : 126 < x6) (k : Ev X 72 30 [.inr (.inl (y0)), fx_u, .inr (.inl (y2)), fx_u, .inl (x4), .inl (x5), .inl (x6)] [] M r M') : Ev X 72 27 [.inr (.inl (y0)), fx_u, .inr (.inl (y2)), fx_u, .inl (x4), .inl (x5), .inl (x6)] [] M r M' := by
  refine Ev.run 2 fd_e72 (i' := 29) (ls' := [.inr (.inl (y0)), fx_u, .inr (.inl (y2)), fx_u, .inl (x4), .inl (x5), .inl (x6)]) (st' := [.inl (126), .inl (x6)]) (M1 := M) rfl ?_
  refine Ev.icF fd_e72 rfl g (by decide) (decide_eq_false (Int.not_le.mpr h)) ?_
  exact k
theorem r72_30 {X : fx_Sc} {M : fx_M} {x4 x5 x6 : Int} {y0 y2 : Int64} : Ev X 72 30 [.inr (.inl (y0)), fx_u, .inr (.inl (y2)), fx_u, .inl (x4), .inl (x5), .inl (x6)] [] M (some (.inl (0))) M := by
  refine Ev.run 1 fd_e72 (i' := 31) (ls' := [.inr (.inl (y0)), fx_u, .inr (.inl (y2)), fx_u, .inl (x4), .inl (x5), .inl (x6)]) (st' := [.inl (0)]) (M1 := M) rfl ?_
  exact Ev.ret1 fd_e72 rfl rfl
theorem r72_32 {X : fx_Sc} {M M' : fx_M} {r : Option fx_V} {x4 x5 x6 : Int} {y0 y2 : Int64} (k : Ev X 72 6 [.inr (.inl (y0)), fx_u, .inr (.inl (((y2).toUInt64 >>> ((Int32.ofInt 8).toInt64.toUInt64 &&& Int64.toUInt64 63)).toInt64)), fx_u, .inl ((x4 + 1)), .inl ((x5 + 1)), .inl (x6)] [] M r M') : Ev X 72 32 [.inr (.inl (y0)), fx_u, .inr (.inl (y2)), fx_u, .inl (x4), .inl (x5), .inl (x6)] [] M r M' := by
  refine Ev.run 7 fd_e72 (i' := 6) (ls' := [.inr (.inl (y0)), fx_u, .inr (.inl (((y2).toUInt64 >>> ((Int32.ofInt 8).toInt64.toUInt64 &&& Int64.toUInt64 63)).toInt64)), fx_u, .inl ((x4 + 1)), .inl ((x5 + 1)), .inl (x6)]) (st' := []) (M1 := M) rfl ?_
  exact k
theorem r72_39 {X : fx_Sc} {M : fx_M} {x4 x5 : Int} {v6 : fx_V} {y0 y2 : Int64} : Ev X 72 39 [.inr (.inl (y0)), fx_u, .inr (.inl (y2)), fx_u, .inl (x4), .inl (x5), v6] [] M (some (.inl (x4))) M := by
  refine Ev.run 1 fd_e72 (i' := 40) (ls' := [.inr (.inl (y0)), fx_u, .inr (.inl (y2)), fx_u, .inl (x4), .inl (x5), v6]) (st' := [.inl (x4)]) (M1 := M) rfl ?_
  exact Ev.ret1 fd_e72 rfl rfl
-- 73: FoldedStrips$Pad.append(JI)V
theorem fd_e73 : fd_C 73 = fd_c73 := rfl
theorem r73_0T {X : fx_Sc} {M M' : fx_M} {r : Option fx_V} {x3 : Int} {y1 : Int64} (g : (-2147483648 ≤ x3 ∧ x3 < 2147483648)) (h : x3 < 0) (k : Ev X 73 8 [fx_f 17, .inr (.inl (y1)), fx_u, .inl (x3), fx_u, fx_u, fx_u] [] M r M') : Ev X 73 0 [fx_f 17, .inr (.inl (y1)), fx_u, .inl (x3), fx_u, fx_u, fx_u] [] M r M' := by
  refine Ev.run 1 fd_e73 (i' := 1) (ls' := [fx_f 17, .inr (.inl (y1)), fx_u, .inl (x3), fx_u, fx_u, fx_u]) (st' := [.inl (x3)]) (M1 := M) rfl ?_
  refine Ev.ifT fd_e73 rfl g (decide_eq_true h) ?_
  exact k
theorem r73_0F {X : fx_Sc} {M M' : fx_M} {r : Option fx_V} {x3 : Int} {y1 : Int64} (g : (-2147483648 ≤ x3 ∧ x3 < 2147483648)) (h : 0 ≤ x3) (k : Ev X 73 2 [fx_f 17, .inr (.inl (y1)), fx_u, .inl (x3), fx_u, fx_u, fx_u] [] M r M') : Ev X 73 0 [fx_f 17, .inr (.inl (y1)), fx_u, .inl (x3), fx_u, fx_u, fx_u] [] M r M' := by
  refine Ev.run 1 fd_e73 (i' := 1) (ls' := [fx_f 17, .inr (.inl (y1)), fx_u, .inl (x3), fx_u, fx_u, fx_u]) (st' := [.inl (x3)]) (M1 := M) rfl ?_
  refine Ev.ifF fd_e73 rfl g (decide_eq_false (Int.not_lt.mpr h)) ?_
  exact k
theorem r73_2T {X : fx_Sc} {M M' : fx_M} {r : Option fx_V} {x3 : Int} {y1 : Int64} (g : (-2147483648 ≤ ((M 17 1) + x3) ∧ ((M 17 1) + x3) < 2147483648)) (h : ((M 17 1) + x3) ≤ 60) (k : Ev X 73 9 [fx_f 17, .inr (.inl (y1)), fx_u, .inl (x3), fx_u, fx_u, fx_u] [] M r M') : Ev X 73 2 [fx_f 17, .inr (.inl (y1)), fx_u, .inl (x3), fx_u, fx_u, fx_u] [] M r M' := by
  refine Ev.run 5 fd_e73 (i' := 7) (ls' := [fx_f 17, .inr (.inl (y1)), fx_u, .inl (x3), fx_u, fx_u, fx_u]) (st' := [.inl (60), .inl (((M 17 1) + x3))]) (M1 := M) rfl ?_
  refine Ev.icT fd_e73 rfl g (by decide) (decide_eq_true h) ?_
  exact k
theorem r73_2F {X : fx_Sc} {M M' : fx_M} {r : Option fx_V} {x3 : Int} {y1 : Int64} (g : (-2147483648 ≤ ((M 17 1) + x3) ∧ ((M 17 1) + x3) < 2147483648)) (h : 60 < ((M 17 1) + x3)) (k : Ev X 73 8 [fx_f 17, .inr (.inl (y1)), fx_u, .inl (x3), fx_u, fx_u, fx_u] [] M r M') : Ev X 73 2 [fx_f 17, .inr (.inl (y1)), fx_u, .inl (x3), fx_u, fx_u, fx_u] [] M r M' := by
  refine Ev.run 5 fd_e73 (i' := 7) (ls' := [fx_f 17, .inr (.inl (y1)), fx_u, .inl (x3), fx_u, fx_u, fx_u]) (st' := [.inl (60), .inl (((M 17 1) + x3))]) (M1 := M) rfl ?_
  refine Ev.icF fd_e73 rfl g (by decide) (decide_eq_false (Int.not_le.mpr h)) ?_
  exact k
theorem r73_8 {X : fx_Sc} {M : fx_M} {x3 : Int} {y1 : Int64} : Ev X 73 8 [fx_f 17, .inr (.inl (y1)), fx_u, .inl (x3), fx_u, fx_u, fx_u] [] M none M := by
  exact Ev.retv fd_e73 rfl rfl
theorem r73_9 {X : fx_Sc} {M M' : fx_M} {r : Option fx_V} {x3 : Int} {y1 : Int64} (k : Ev X 73 18 [fx_f 17, .inr (.inl (y1)), fx_u, .inl (x3), .inr (.inl (y1)), fx_u, .inl ((((M 17 1) + x3) - 1))] [] M r M') : Ev X 73 9 [fx_f 17, .inr (.inl (y1)), fx_u, .inl (x3), fx_u, fx_u, fx_u] [] M r M' := by
  refine Ev.run 9 fd_e73 (i' := 18) (ls' := [fx_f 17, .inr (.inl (y1)), fx_u, .inl (x3), .inr (.inl (y1)), fx_u, .inl ((((M 17 1) + x3) - 1))]) (st' := []) (M1 := M) rfl ?_
  exact k
theorem r73_18T {X : fx_Sc} {M M' : fx_M} {r : Option fx_V} {x3 x6 : Int} {y1 y4 : Int64} (g : (-2147483648 ≤ x6 ∧ x6 < 2147483648) ∧ (-2147483648 ≤ (M 17 1) ∧ (M 17 1) < 2147483648)) (h : x6 < (M 17 1)) (k : Ev X 73 37 [fx_f 17, .inr (.inl (y1)), fx_u, .inl (x3), .inr (.inl (y4)), fx_u, .inl (x6)] [] M r M') : Ev X 73 18 [fx_f 17, .inr (.inl (y1)), fx_u, .inl (x3), .inr (.inl (y4)), fx_u, .inl (x6)] [] M r M' := by
  refine Ev.run 3 fd_e73 (i' := 21) (ls' := [fx_f 17, .inr (.inl (y1)), fx_u, .inl (x3), .inr (.inl (y4)), fx_u, .inl (x6)]) (st' := [.inl ((M 17 1)), .inl (x6)]) (M1 := M) rfl ?_
  refine Ev.icT fd_e73 rfl g.1 g.2 (decide_eq_true h) ?_
  exact k
theorem r73_18F {X : fx_Sc} {M M' : fx_M} {r : Option fx_V} {x3 x6 : Int} {y1 y4 : Int64} (g : (-2147483648 ≤ x6 ∧ x6 < 2147483648) ∧ (-2147483648 ≤ (M 17 1) ∧ (M 17 1) < 2147483648)) (h : (M 17 1) ≤ x6) (k : Ev X 73 22 [fx_f 17, .inr (.inl (y1)), fx_u, .inl (x3), .inr (.inl (y4)), fx_u, .inl (x6)] [] M r M') : Ev X 73 18 [fx_f 17, .inr (.inl (y1)), fx_u, .inl (x3), .inr (.inl (y4)), fx_u, .inl (x6)] [] M r M' := by
  refine Ev.run 3 fd_e73 (i' := 21) (ls' := [fx_f 17, .inr (.inl (y1)), fx_u, .inl (x3), .inr (.inl (y4)), fx_u, .inl (x6)]) (st' := [.inl ((M 17 1)), .inl (x6)]) (M1 := M) rfl ?_
  refine Ev.icF fd_e73 rfl g.1 g.2 (decide_eq_false (Int.not_lt.mpr h)) ?_
  exact k
theorem r73_22 {X : fx_Sc} {M M' : fx_M} {r : Option fx_V} {x3 x6 : Int} {y1 y4 : Int64} (g : (0 ≤ (fx_i2c ((y4 &&& Int64.ofInt 255)).toInt32.toInt) ∧ (fx_i2c ((y4 &&& Int64.ofInt 255)).toInt32.toInt) < 65536) ∧ (0 ≤ x6 ∧ x6 < ((60 : Nat) : Int))) (k : Ev X 73 18 [fx_f 17, .inr (.inl (y1)), fx_u, .inl (x3), .inr (.inl (((y4).toUInt64 >>> ((Int32.ofInt 8).toInt64.toUInt64 &&& Int64.toUInt64 63)).toInt64)), fx_u, .inl ((x6 + (-1)))] [] (fx_set M 18 (fx_up (M 18) (x6).toNat (fx_i2c ((y4 &&& Int64.ofInt 255)).toInt32.toInt))) r M') : Ev X 73 22 [fx_f 17, .inr (.inl (y1)), fx_u, .inl (x3), .inr (.inl (y4)), fx_u, .inl (x6)] [] M r M' := by
  refine Ev.run 8 fd_e73 (i' := 30) (ls' := [fx_f 17, .inr (.inl (y1)), fx_u, .inl (x3), .inr (.inl (y4)), fx_u, .inl (x6)]) (st' := [.inl ((fx_i2c ((y4 &&& Int64.ofInt 255)).toInt32.toInt)), .inl (x6), fx_f 18]) (M1 := M) rfl ?_
  refine Ev.cast fd_e73 rfl rfl (by decide) g.2 g.1 ?_
  refine Ev.run 6 fd_e73 (i' := 18) (ls' := [fx_f 17, .inr (.inl (y1)), fx_u, .inl (x3), .inr (.inl (((y4).toUInt64 >>> ((Int32.ofInt 8).toInt64.toUInt64 &&& Int64.toUInt64 63)).toInt64)), fx_u, .inl ((x6 + (-1)))]) (st' := []) (M1 := (fx_set M 18 (fx_up (M 18) (x6).toNat (fx_i2c ((y4 &&& Int64.ofInt 255)).toInt32.toInt)))) rfl ?_
  exact k
theorem r73_37 {X : fx_Sc} {M : fx_M} {x3 x6 : Int} {y1 y4 : Int64} : Ev X 73 37 [fx_f 17, .inr (.inl (y1)), fx_u, .inl (x3), .inr (.inl (y4)), fx_u, .inl (x6)] [] M none (fx_set M 17 (fx_up (M 17) 1 ((M 17 1) + x3))) := by
  refine Ev.run 6 fd_e73 (i' := 43) (ls' := [fx_f 17, .inr (.inl (y1)), fx_u, .inl (x3), .inr (.inl (y4)), fx_u, .inl (x6)]) (st' := []) (M1 := (fx_set M 17 (fx_up (M 17) 1 ((M 17 1) + x3)))) rfl ?_
  exact Ev.retv fd_e73 rfl rfl

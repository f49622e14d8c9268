-- 77: FoldedStrips$Strip.copyFrom(LFoldedStrips$Strip;)V
theorem fd_e77 : fd_C 77 = fd_c77 := rfl
theorem r77_0 {X : fx_Sc} {M : fx_M} {a b : Nat} (ha : fd_isS a) (hb : fd_isS b) : Ev X 77 0 [fx_f a, fx_f b] [] M none (fx_set (fx_set M (a + 1) (fx_cp (M (b + 1)) (M (a + 1)) (0 : Int).toNat (0 : Int).toNat (144 : Int).toNat)) (a + 2) (fx_cp ((fx_set M (a + 1) (fx_cp (M (b + 1)) (M (a + 1)) (0 : Int).toNat (0 : Int).toNat (144 : Int).toNat)) (b + 2)) ((fx_set M (a + 1) (fx_cp (M (b + 1)) (M (a + 1)) (0 : Int).toNat (0 : Int).toNat (144 : Int).toNat)) (a + 2)) (0 : Int).toNat (0 : Int).toNat (6 : Int).toNat)) := by
  refine Ev.run 1 fd_e77 (i' := 1) (ls' := [fx_f a, fx_f b]) (st' := [fx_f b]) (M1 := M) rfl ?_
  refine Ev.getr fd_e77 rfl hb.1 rfl ?_
  refine Ev.run 2 fd_e77 (i' := 4) (ls' := [fx_f a, fx_f b]) (st' := [fx_f a, .inl (0), fx_f (b + 1)]) (M1 := M) rfl ?_
  refine Ev.getr fd_e77 rfl ha.1 rfl ?_
  refine Ev.run 2 fd_e77 (i' := 7) (ls' := [fx_f a, fx_f b]) (st' := [.inl (144), .inl (0), fx_f (a + 1), .inl (0), fx_f (b + 1)]) (M1 := M) rfl ?_
  refine Ev.acp fd_e77 rfl hb.2.1 ha.2.1 (by decide) (by decide) (by decide) (Nat.le_of_ble_eq_true rfl) ?_
  refine Ev.run 1 fd_e77 (i' := 9) (ls' := [fx_f a, fx_f b]) (st' := [fx_f b]) (M1 := (fx_set M (a + 1) (fx_cp (M (b + 1)) (M (a + 1)) (0 : Int).toNat (0 : Int).toNat (144 : Int).toNat))) rfl ?_
  refine Ev.getr fd_e77 rfl hb.1 rfl ?_
  refine Ev.run 2 fd_e77 (i' := 12) (ls' := [fx_f a, fx_f b]) (st' := [fx_f a, .inl (0), fx_f (b + 2)]) (M1 := (fx_set M (a + 1) (fx_cp (M (b + 1)) (M (a + 1)) (0 : Int).toNat (0 : Int).toNat (144 : Int).toNat))) rfl ?_
  refine Ev.getr fd_e77 rfl ha.1 rfl ?_
  refine Ev.run 2 fd_e77 (i' := 15) (ls' := [fx_f a, fx_f b]) (st' := [.inl (6), .inl (0), fx_f (a + 2), .inl (0), fx_f (b + 2)]) (M1 := (fx_set M (a + 1) (fx_cp (M (b + 1)) (M (a + 1)) (0 : Int).toNat (0 : Int).toNat (144 : Int).toNat))) rfl ?_
  refine Ev.acp fd_e77 rfl hb.2.2.1 ha.2.2.1 (by decide) (by decide) (by decide) (Nat.le_of_ble_eq_true rfl) ?_
  exact Ev.retv fd_e77 rfl rfl
-- 78: FoldedStrips$Strip.erase(I)V
theorem fd_e78 : fd_C 78 = fd_c78 := rfl
theorem r78_0 {X : fx_Sc} {M M' : fx_M} {r : Option fx_V} {a : Nat} {x1 z : Int} {M1 : fx_M} (hc : Ev X 1 0 [.inl (x1)] [] M (some (.inl z)) M1) (k : Ev X 78 2 [fx_f a, .inl (x1), fx_u] [.inl (z)] M1 r M') : Ev X 78 0 [fx_f a, .inl (x1), fx_u] [] M r M' := by
  refine Ev.run 1 fd_e78 (i' := 1) (ls' := [fx_f a, .inl (x1), fx_u]) (st' := [.inl (x1)]) (M1 := M) rfl ?_
  refine Ev.callS (vs := [.inl (x1)]) (rest := []) (r1 := (some (.inl z))) fd_e78 rfl rfl rfl (Nat.le_of_ble_eq_true rfl) (Nat.le_of_ble_eq_true rfl) hc ?_
  exact k
theorem r78_2T {X : fx_Sc} {M M' : fx_M} {r : Option fx_V} {a : Nat} {x1 s0 : Int} (g : (-2147483648 ≤ s0 ∧ s0 < 2147483648)) (h : s0 ≠ 0) (k : Ev X 78 4 [fx_f a, .inl (x1), fx_u] [] M r M') : Ev X 78 2 [fx_f a, .inl (x1), fx_u] [.inl (s0)] M r M' := by
  refine Ev.ifT fd_e78 rfl g (decide_eq_true h) ?_
  exact k
theorem r78_2F {X : fx_Sc} {M M' : fx_M} {r : Option fx_V} {a : Nat} {x1 s0 : Int} (g : (-2147483648 ≤ s0 ∧ s0 < 2147483648)) (h : s0 = 0) (k : Ev X 78 3 [fx_f a, .inl (x1), fx_u] [] M r M') : Ev X 78 2 [fx_f a, .inl (x1), fx_u] [.inl (s0)] M r M' := by
  refine Ev.ifF fd_e78 rfl g (decide_eq_false (not_not_intro h)) ?_
  exact k
theorem r78_3 {X : fx_Sc} {M : fx_M} {a : Nat} {x1 : Int} : Ev X 78 3 [fx_f a, .inl (x1), fx_u] [] M none M := by
  exact Ev.retv fd_e78 rfl rfl
theorem r78_4 {X : fx_Sc} {M M' : fx_M} {r : Option fx_V} {a : Nat} {x1 : Int} (k : Ev X 78 6 [fx_f a, .inl (x1), .inl (0)] [] M r M') : Ev X 78 4 [fx_f a, .inl (x1), fx_u] [] M r M' := by
  refine Ev.run 2 fd_e78 (i' := 6) (ls' := [fx_f a, .inl (x1), .inl (0)]) (st' := []) (M1 := M) rfl ?_
  exact k
theorem r78_6T {X : fx_Sc} {M M' : fx_M} {r : Option fx_V} {a : Nat} {x1 x2 : Int} (g : (-2147483648 ≤ x2 ∧ x2 < 2147483648)) (h : 24 ≤ x2) (k : Ev X 78 18 [fx_f a, .inl (x1), .inl (x2)] [] M r M') : Ev X 78 6 [fx_f a, .inl (x1), .inl (x2)] [] M r M' := by
  refine Ev.run 2 fd_e78 (i' := 8) (ls' := [fx_f a, .inl (x1), .inl (x2)]) (st' := [.inl (24), .inl (x2)]) (M1 := M) rfl ?_
  refine Ev.icT fd_e78 rfl g (by decide) (decide_eq_true h) ?_
  exact k
theorem r78_6F {X : fx_Sc} {M M' : fx_M} {r : Option fx_V} {a : Nat} {x1 x2 : Int} (g : (-2147483648 ≤ x2 ∧ x2 < 2147483648)) (h : x2 < 24) (k : Ev X 78 9 [fx_f a, .inl (x1), .inl (x2)] [] M r M') : Ev X 78 6 [fx_f a, .inl (x1), .inl (x2)] [] M r M' := by
  refine Ev.run 2 fd_e78 (i' := 8) (ls' := [fx_f a, .inl (x1), .inl (x2)]) (st' := [.inl (24), .inl (x2)]) (M1 := M) rfl ?_
  refine Ev.icF fd_e78 rfl g (by decide) (decide_eq_false (Int.not_le.mpr h)) ?_
  exact k
theorem r78_9 {X : fx_Sc} {M M' : fx_M} {r : Option fx_V} {a : Nat} {x1 x2 z : Int} {M1 : fx_M} (ha : fd_isS a) (hc : Ev X 3 0 [.inl (x1), .inl (x2)] [] M (some (.inl z)) M1) (k : Ev X 78 14 [fx_f a, .inl (x1), .inl (x2)] [.inl (z), fx_f (a + 1)] M1 r M') : Ev X 78 9 [fx_f a, .inl (x1), .inl (x2)] [] M r M' := by
  refine Ev.run 1 fd_e78 (i' := 10) (ls' := [fx_f a, .inl (x1), .inl (x2)]) (st' := [fx_f a]) (M1 := M) rfl ?_
  refine Ev.getr fd_e78 rfl ha.1 rfl ?_
  refine Ev.run 2 fd_e78 (i' := 13) (ls' := [fx_f a, .inl (x1), .inl (x2)]) (st' := [.inl (x2), .inl (x1), fx_f (a + 1)]) (M1 := M) rfl ?_
  refine Ev.callS (vs := [.inl (x1), .inl (x2)]) (rest := [fx_f (a + 1)]) (r1 := (some (.inl z))) fd_e78 rfl rfl rfl (Nat.le_of_ble_eq_true rfl) (Nat.le_of_ble_eq_true rfl) hc ?_
  exact k
theorem r78_14 {X : fx_Sc} {M M' : fx_M} {r : Option fx_V} {a : Nat} {x1 x2 s1 : Int} (ha : fd_isS a) (g : (0 ≤ s1 ∧ s1 < ((144 : Nat) : Int))) (k : Ev X 78 6 [fx_f a, .inl (x1), .inl ((x2 + 1))] [] (fx_set M (a + 1) (fx_up (M (a + 1)) (s1).toNat (-1))) r M') : Ev X 78 14 [fx_f a, .inl (x1), .inl (x2)] [.inl (s1), fx_f (a + 1)] M r M' := by
  refine Ev.run 1 fd_e78 (i' := 15) (ls' := [fx_f a, .inl (x1), .inl (x2)]) (st' := [.inl ((-1)), .inl (s1), fx_f (a + 1)]) (M1 := M) rfl ?_
  refine Ev.iast fd_e78 rfl ha.2.1 (by decide) g ?_
  refine Ev.run 2 fd_e78 (i' := 6) (ls' := [fx_f a, .inl (x1), .inl ((x2 + 1))]) (st' := []) (M1 := (fx_set M (a + 1) (fx_up (M (a + 1)) (s1).toNat (-1)))) rfl ?_
  exact k
theorem r78_18 {X : fx_Sc} {M : fx_M} {a : Nat} {x1 x2 : Int} : Ev X 78 18 [fx_f a, .inl (x1), .inl (x2)] [] M none M := by
  exact Ev.retv fd_e78 rfl rfl
-- 80: FoldedStrips$Strip.link(III)V
theorem fd_e80 : fd_C 80 = fd_c80 := rfl
theorem r80_0 {X : fx_Sc} {M M' : fx_M} {r : Option fx_V} {a : Nat} {x1 x2 x3 z : Int} {M1 : fx_M} (hc : Ev X 1 0 [.inl (x1)] [] M (some (.inl z)) M1) (k : Ev X 80 2 [fx_f a, .inl (x1), .inl (x2), .inl (x3)] [.inl (z)] M1 r M') : Ev X 80 0 [fx_f a, .inl (x1), .inl (x2), .inl (x3)] [] M r M' := by
  refine Ev.run 1 fd_e80 (i' := 1) (ls' := [fx_f a, .inl (x1), .inl (x2), .inl (x3)]) (st' := [.inl (x1)]) (M1 := M) rfl ?_
  refine Ev.callS (vs := [.inl (x1)]) (rest := []) (r1 := (some (.inl z))) fd_e80 rfl rfl rfl (Nat.le_of_ble_eq_true rfl) (Nat.le_of_ble_eq_true rfl) hc ?_
  exact k
theorem r80_2T {X : fx_Sc} {M M' : fx_M} {r : Option fx_V} {a : Nat} {x1 x2 x3 s0 : Int} (g : (-2147483648 ≤ s0 ∧ s0 < 2147483648)) (h : s0 = 0) (k : Ev X 80 23 [fx_f a, .inl (x1), .inl (x2), .inl (x3)] [] M r M') : Ev X 80 2 [fx_f a, .inl (x1), .inl (x2), .inl (x3)] [.inl (s0)] M r M' := by
  refine Ev.ifT fd_e80 rfl g (decide_eq_true h) ?_
  exact k
theorem r80_2F {X : fx_Sc} {M M' : fx_M} {r : Option fx_V} {a : Nat} {x1 x2 x3 s0 : Int} (g : (-2147483648 ≤ s0 ∧ s0 < 2147483648)) (h : s0 ≠ 0) (k : Ev X 80 3 [fx_f a, .inl (x1), .inl (x2), .inl (x3)] [] M r M') : Ev X 80 2 [fx_f a, .inl (x1), .inl (x2), .inl (x3)] [.inl (s0)] M r M' := by
  refine Ev.ifF fd_e80 rfl g (decide_eq_false h) ?_
  exact k
theorem r80_3 {X : fx_Sc} {M M' : fx_M} {r : Option fx_V} {a : Nat} {x1 x2 x3 z : Int} {M1 : fx_M} (hc : Ev X 4 0 [.inl (x2)] [] M (some (.inl z)) M1) (k : Ev X 80 5 [fx_f a, .inl (x1), .inl (x2), .inl (x3)] [.inl (z)] M1 r M') : Ev X 80 3 [fx_f a, .inl (x1), .inl (x2), .inl (x3)] [] M r M' := by
  refine Ev.run 1 fd_e80 (i' := 4) (ls' := [fx_f a, .inl (x1), .inl (x2), .inl (x3)]) (st' := [.inl (x2)]) (M1 := M) rfl ?_
  refine Ev.callS (vs := [.inl (x2)]) (rest := []) (r1 := (some (.inl z))) fd_e80 rfl rfl rfl (Nat.le_of_ble_eq_true rfl) (Nat.le_of_ble_eq_true rfl) hc ?_
  exact k
theorem r80_5T {X : fx_Sc} {M M' : fx_M} {r : Option fx_V} {a : Nat} {x1 x2 x3 s0 : Int} (g : (-2147483648 ≤ s0 ∧ s0 < 2147483648)) (h : s0 = 0) (k : Ev X 80 23 [fx_f a, .inl (x1), .inl (x2), .inl (x3)] [] M r M') : Ev X 80 5 [fx_f a, .inl (x1), .inl (x2), .inl (x3)] [.inl (s0)] M r M' := by
  refine Ev.ifT fd_e80 rfl g (decide_eq_true h) ?_
  exact k
theorem r80_5F {X : fx_Sc} {M M' : fx_M} {r : Option fx_V} {a : Nat} {x1 x2 x3 s0 : Int} (g : (-2147483648 ≤ s0 ∧ s0 < 2147483648)) (h : s0 ≠ 0) (k : Ev X 80 6 [fx_f a, .inl (x1), .inl (x2), .inl (x3)] [] M r M') : Ev X 80 5 [fx_f a, .inl (x1), .inl (x2), .inl (x3)] [.inl (s0)] M r M' := by
  refine Ev.ifF fd_e80 rfl g (decide_eq_false h) ?_
  exact k
theorem r80_6 {X : fx_Sc} {M M' : fx_M} {r : Option fx_V} {a : Nat} {x1 x2 x3 z : Int} {M1 : fx_M} (hc : Ev X 4 0 [.inl (x3)] [] M (some (.inl z)) M1) (k : Ev X 80 8 [fx_f a, .inl (x1), .inl (x2), .inl (x3)] [.inl (z)] M1 r M') : Ev X 80 6 [fx_f a, .inl (x1), .inl (x2), .inl (x3)] [] M r M' := by
  refine Ev.run 1 fd_e80 (i' := 7) (ls' := [fx_f a, .inl (x1), .inl (x2), .inl (x3)]) (st' := [.inl (x3)]) (M1 := M) rfl ?_
  refine Ev.callS (vs := [.inl (x3)]) (rest := []) (r1 := (some (.inl z))) fd_e80 rfl rfl rfl (Nat.le_of_ble_eq_true rfl) (Nat.le_of_ble_eq_true rfl) hc ?_
  exact k
theorem r80_8T {X : fx_Sc} {M M' : fx_M} {r : Option fx_V} {a : Nat} {x1 x2 x3 s0 : Int} (g : (-2147483648 ≤ s0 ∧ s0 < 2147483648)) (h : s0 = 0) (k : Ev X 80 23 [fx_f a, .inl (x1), .inl (x2), .inl (x3)] [] M r M') : Ev X 80 8 [fx_f a, .inl (x1), .inl (x2), .inl (x3)] [.inl (s0)] M r M' := by
  refine Ev.ifT fd_e80 rfl g (decide_eq_true h) ?_
  exact k
theorem r80_8F {X : fx_Sc} {M M' : fx_M} {r : Option fx_V} {a : Nat} {x1 x2 x3 s0 : Int} (g : (-2147483648 ≤ s0 ∧ s0 < 2147483648)) (h : s0 ≠ 0) (k : Ev X 80 9 [fx_f a, .inl (x1), .inl (x2), .inl (x3)] [] M r M') : Ev X 80 8 [fx_f a, .inl (x1), .inl (x2), .inl (x3)] [.inl (s0)] M r M' := by
  refine Ev.ifF fd_e80 rfl g (decide_eq_false h) ?_
  exact k
theorem r80_9 {X : fx_Sc} {M M' : fx_M} {r : Option fx_V} {a : Nat} {x1 x2 x3 z : Int} {M1 : fx_M} (ha : fd_isS a) (hc : Ev X 3 0 [.inl (x1), .inl (x2)] [] M (some (.inl z)) M1) (k : Ev X 80 14 [fx_f a, .inl (x1), .inl (x2), .inl (x3)] [.inl (z), fx_f (a + 1)] M1 r M') : Ev X 80 9 [fx_f a, .inl (x1), .inl (x2), .inl (x3)] [] M r M' := by
  refine Ev.run 1 fd_e80 (i' := 10) (ls' := [fx_f a, .inl (x1), .inl (x2), .inl (x3)]) (st' := [fx_f a]) (M1 := M) rfl ?_
  refine Ev.getr fd_e80 rfl ha.1 rfl ?_
  refine Ev.run 2 fd_e80 (i' := 13) (ls' := [fx_f a, .inl (x1), .inl (x2), .inl (x3)]) (st' := [.inl (x2), .inl (x1), fx_f (a + 1)]) (M1 := M) rfl ?_
  refine Ev.callS (vs := [.inl (x1), .inl (x2)]) (rest := [fx_f (a + 1)]) (r1 := (some (.inl z))) fd_e80 rfl rfl rfl (Nat.le_of_ble_eq_true rfl) (Nat.le_of_ble_eq_true rfl) hc ?_
  exact k
theorem r80_14 {X : fx_Sc} {M M' : fx_M} {r : Option fx_V} {a : Nat} {x1 x2 x3 s1 z : Int} {M1 : fx_M} (ha : fd_isS a) (g : (0 ≤ s1 ∧ s1 < ((144 : Nat) : Int))) (hc : Ev X 3 0 [.inl (x1), .inl (x3)] [] (fx_set M (a + 1) (fx_up (M (a + 1)) (s1).toNat x3)) (some (.inl z)) M1) (k : Ev X 80 21 [fx_f a, .inl (x1), .inl (x2), .inl (x3)] [.inl (z), fx_f (a + 1)] M1 r M') : Ev X 80 14 [fx_f a, .inl (x1), .inl (x2), .inl (x3)] [.inl (s1), fx_f (a + 1)] M r M' := by
  refine Ev.run 1 fd_e80 (i' := 15) (ls' := [fx_f a, .inl (x1), .inl (x2), .inl (x3)]) (st' := [.inl (x3), .inl (s1), fx_f (a + 1)]) (M1 := M) rfl ?_
  refine Ev.iast fd_e80 rfl ha.2.1 (by decide) g ?_
  refine Ev.run 1 fd_e80 (i' := 17) (ls' := [fx_f a, .inl (x1), .inl (x2), .inl (x3)]) (st' := [fx_f a]) (M1 := (fx_set M (a + 1) (fx_up (M (a + 1)) (s1).toNat x3))) rfl ?_
  refine Ev.getr fd_e80 rfl ha.1 rfl ?_
  refine Ev.run 2 fd_e80 (i' := 20) (ls' := [fx_f a, .inl (x1), .inl (x2), .inl (x3)]) (st' := [.inl (x3), .inl (x1), fx_f (a + 1)]) (M1 := (fx_set M (a + 1) (fx_up (M (a + 1)) (s1).toNat x3))) rfl ?_
  refine Ev.callS (vs := [.inl (x1), .inl (x3)]) (rest := [fx_f (a + 1)]) (r1 := (some (.inl z))) fd_e80 rfl rfl rfl (Nat.le_of_ble_eq_true rfl) (Nat.le_of_ble_eq_true rfl) hc ?_
  exact k
theorem r80_21 {X : fx_Sc} {M : fx_M} {a : Nat} {x1 x2 x3 s1 : Int} (ha : fd_isS a) (g : (0 ≤ s1 ∧ s1 < ((144 : Nat) : Int))) : Ev X 80 21 [fx_f a, .inl (x1), .inl (x2), .inl (x3)] [.inl (s1), fx_f (a + 1)] M none (fx_set M (a + 1) (fx_up (M (a + 1)) (s1).toNat x2)) := by
  refine Ev.run 1 fd_e80 (i' := 22) (ls' := [fx_f a, .inl (x1), .inl (x2), .inl (x3)]) (st' := [.inl (x2), .inl (s1), fx_f (a + 1)]) (M1 := M) rfl ?_
  refine Ev.iast fd_e80 rfl ha.2.1 (by decide) g ?_
  exact Ev.retv fd_e80 rfl rfl
theorem r80_23 {X : fx_Sc} {M : fx_M} {a : Nat} {x1 x2 x3 : Int} : Ev X 80 23 [fx_f a, .inl (x1), .inl (x2), .inl (x3)] [] M none M := by
  exact Ev.retv fd_e80 rfl rfl
-- 81: FoldedStrips$Strip.strokesIn(I)I
theorem fd_e81 : fd_C 81 = fd_c81 := rfl
theorem r81_0 {X : fx_Sc} {M M' : fx_M} {r : Option fx_V} {a : Nat} {x1 z : Int} {M1 : fx_M} (hc : Ev X 5 0 [.inl (x1)] [] M (some (.inl z)) M1) (k : Ev X 81 3 [fx_f a, .inl (x1), fx_u] [.inl (z), fx_f a] M1 r M') : Ev X 81 0 [fx_f a, .inl (x1), fx_u] [] M r M' := by
  refine Ev.run 2 fd_e81 (i' := 2) (ls' := [fx_f a, .inl (x1), fx_u]) (st' := [.inl (x1), fx_f a]) (M1 := M) rfl ?_
  refine Ev.callS (vs := [.inl (x1)]) (rest := [fx_f a]) (r1 := (some (.inl z))) fd_e81 rfl rfl rfl (Nat.le_of_ble_eq_true rfl) (Nat.le_of_ble_eq_true rfl) hc ?_
  exact k
theorem r81_3 {X : fx_Sc} {M M' : fx_M} {r : Option fx_V} {a : Nat} {x1 s1 z : Int} {M1 : fx_M} (ha : fd_isS a) (hc : Ev X 82 0 [fx_f a, .inl (s1), fx_u, fx_u] [] M (some (.inl z)) M1) (k : Ev X 81 4 [fx_f a, .inl (x1), fx_u] [.inl (z)] M1 r M') : Ev X 81 3 [fx_f a, .inl (x1), fx_u] [.inl (s1), fx_f a] M r M' := by
  refine Ev.callV (vs := [fx_f a, .inl (s1)]) (rest := []) (r1 := (some (.inl z))) fd_e81 rfl rfl rfl (Nat.le_of_ble_eq_true rfl) (Nat.le_of_ble_eq_true rfl) (fd_rcvS ha) hc ?_
  exact k
theorem r81_4 {X : fx_Sc} {M M' : fx_M} {r : Option fx_V} {a : Nat} {x1 s0 z : Int} {M1 : fx_M} (hc : Ev X 182 0 [.inl (s0)] [] M (some (.inl z)) M1) (k : Ev X 81 5 [fx_f a, .inl (x1), fx_u] [.inl (z)] M1 r M') : Ev X 81 4 [fx_f a, .inl (x1), fx_u] [.inl (s0)] M r M' := by
  refine Ev.callS (vs := [.inl (s0)]) (rest := []) (r1 := (some (.inl z))) fd_e81 rfl rfl rfl (Nat.le_of_ble_eq_true rfl) (Nat.le_of_ble_eq_true rfl) hc ?_
  exact k
theorem r81_5 {X : fx_Sc} {M M' : fx_M} {r : Option fx_V} {a : Nat} {x1 s0 z : Int} {M1 : fx_M} (hc : Ev X 7 0 [.inl (x1)] [] M (some (.inl z)) M1) (k : Ev X 81 8 [fx_f a, .inl (x1), fx_u] [.inl (z), fx_f a, .inl (s0)] M1 r M') : Ev X 81 5 [fx_f a, .inl (x1), fx_u] [.inl (s0)] M r M' := by
  refine Ev.run 2 fd_e81 (i' := 7) (ls' := [fx_f a, .inl (x1), fx_u]) (st' := [.inl (x1), fx_f a, .inl (s0)]) (M1 := M) rfl ?_
  refine Ev.callS (vs := [.inl (x1)]) (rest := [fx_f a, .inl (s0)]) (r1 := (some (.inl z))) fd_e81 rfl rfl rfl (Nat.le_of_ble_eq_true rfl) (Nat.le_of_ble_eq_true rfl) hc ?_
  exact k
theorem r81_8 {X : fx_Sc} {M M' : fx_M} {r : Option fx_V} {a : Nat} {x1 s0 s2 z : Int} {M1 : fx_M} (ha : fd_isS a) (hc : Ev X 82 0 [fx_f a, .inl (s2), fx_u, fx_u] [] M (some (.inl z)) M1) (k : Ev X 81 9 [fx_f a, .inl (x1), fx_u] [.inl (z), .inl (s0)] M1 r M') : Ev X 81 8 [fx_f a, .inl (x1), fx_u] [.inl (s2), fx_f a, .inl (s0)] M r M' := by
  refine Ev.callV (vs := [fx_f a, .inl (s2)]) (rest := [.inl (s0)]) (r1 := (some (.inl z))) fd_e81 rfl rfl rfl (Nat.le_of_ble_eq_true rfl) (Nat.le_of_ble_eq_true rfl) (fd_rcvS ha) hc ?_
  exact k
theorem r81_9 {X : fx_Sc} {M M' : fx_M} {r : Option fx_V} {a : Nat} {x1 s0 s1 z : Int} {M1 : fx_M} (hc : Ev X 182 0 [.inl (s1)] [] M (some (.inl z)) M1) (k : Ev X 81 10 [fx_f a, .inl (x1), fx_u] [.inl (z), .inl (s0)] M1 r M') : Ev X 81 9 [fx_f a, .inl (x1), fx_u] [.inl (s1), .inl (s0)] M r M' := by
  refine Ev.callS (vs := [.inl (s1)]) (rest := [.inl (s0)]) (r1 := (some (.inl z))) fd_e81 rfl rfl rfl (Nat.le_of_ble_eq_true rfl) (Nat.le_of_ble_eq_true rfl) hc ?_
  exact k
theorem r81_10 {X : fx_Sc} {M : fx_M} {a : Nat} {x1 s0 s1 : Int} : Ev X 81 10 [fx_f a, .inl (x1), fx_u] [.inl (s1), .inl (s0)] M (some (.inl ((fx_div (s0 + s1) 2)))) M := by
  refine Ev.run 4 fd_e81 (i' := 14) (ls' := [fx_f a, .inl (x1), .inl ((s0 + s1))]) (st' := [.inl (2), .inl ((s0 + s1))]) (M1 := M) rfl ?_
  refine Ev.div fd_e81 rfl (by decide) ?_
  exact Ev.ret1 fd_e81 rfl rfl
-- 82: FoldedStrips$Strip.edgeSet(I)I
theorem fd_e82 : fd_C 82 = fd_c82 := rfl
theorem r82_0 {X : fx_Sc} {M M' : fx_M} {r : Option fx_V} {a : Nat} {x1 : Int} (k : Ev X 82 4 [fx_f a, .inl (x1), .inl (0), .inl (0)] [] M r M') : Ev X 82 0 [fx_f a, .inl (x1), fx_u, fx_u] [] M r M' := by
  refine Ev.run 4 fd_e82 (i' := 4) (ls' := [fx_f a, .inl (x1), .inl (0), .inl (0)]) (st' := []) (M1 := M) rfl ?_
  exact k
theorem r82_4T {X : fx_Sc} {M M' : fx_M} {r : Option fx_V} {a : Nat} {x1 x2 x3 : Int} (g : (-2147483648 ≤ x3 ∧ x3 < 2147483648)) (h : 12 ≤ x3) (k : Ev X 82 23 [fx_f a, .inl (x1), .inl (x2), .inl (x3)] [] M r M') : Ev X 82 4 [fx_f a, .inl (x1), .inl (x2), .inl (x3)] [] M r M' := by
  refine Ev.run 2 fd_e82 (i' := 6) (ls' := [fx_f a, .inl (x1), .inl (x2), .inl (x3)]) (st' := [.inl (12), .inl (x3)]) (M1 := M) rfl ?_
  refine Ev.icT fd_e82 rfl g (by decide) (decide_eq_true h) ?_
  exact k
theorem r82_4F {X : fx_Sc} {M M' : fx_M} {r : Option fx_V} {a : Nat} {x1 x2 x3 : Int} (g : (-2147483648 ≤ x3 ∧ x3 < 2147483648)) (h : x3 < 12) (k : Ev X 82 7 [fx_f a, .inl (x1), .inl (x2), .inl (x3)] [] M r M') : Ev X 82 4 [fx_f a, .inl (x1), .inl (x2), .inl (x3)] [] M r M' := by
  refine Ev.run 2 fd_e82 (i' := 6) (ls' := [fx_f a, .inl (x1), .inl (x2), .inl (x3)]) (st' := [.inl (12), .inl (x3)]) (M1 := M) rfl ?_
  refine Ev.icF fd_e82 rfl g (by decide) (decide_eq_false (Int.not_le.mpr h)) ?_
  exact k
theorem r82_7 {X : fx_Sc} {M M' : fx_M} {r : Option fx_V} {a : Nat} {x1 x2 x3 z : Int} {M1 : fx_M} (ha : fd_isS a) (hc : Ev X 83 0 [fx_f a, .inl (((x1 * 12) + x3))] [] M (some (.inl z)) M1) (k : Ev X 82 14 [fx_f a, .inl (x1), .inl (x2), .inl (x3)] [.inl (z)] M1 r M') : Ev X 82 7 [fx_f a, .inl (x1), .inl (x2), .inl (x3)] [] M r M' := by
  refine Ev.run 6 fd_e82 (i' := 13) (ls' := [fx_f a, .inl (x1), .inl (x2), .inl (x3)]) (st' := [.inl (((x1 * 12) + x3)), fx_f a]) (M1 := M) rfl ?_
  refine Ev.callV (vs := [fx_f a, .inl (((x1 * 12) + x3))]) (rest := []) (r1 := (some (.inl z))) fd_e82 rfl rfl rfl (Nat.le_of_ble_eq_true rfl) (Nat.le_of_ble_eq_true rfl) (fd_rcvS ha) hc ?_
  exact k
theorem r82_14T {X : fx_Sc} {M M' : fx_M} {r : Option fx_V} {a : Nat} {x1 x2 x3 s0 : Int} (g : (-2147483648 ≤ s0 ∧ s0 < 2147483648)) (h : s0 = 0) (k : Ev X 82 21 [fx_f a, .inl (x1), .inl (x2), .inl (x3)] [] M r M') : Ev X 82 14 [fx_f a, .inl (x1), .inl (x2), .inl (x3)] [.inl (s0)] M r M' := by
  refine Ev.ifT fd_e82 rfl g (decide_eq_true h) ?_
  exact k
theorem r82_14F {X : fx_Sc} {M M' : fx_M} {r : Option fx_V} {a : Nat} {x1 x2 x3 s0 : Int} (g : (-2147483648 ≤ s0 ∧ s0 < 2147483648)) (h : s0 ≠ 0) (k : Ev X 82 15 [fx_f a, .inl (x1), .inl (x2), .inl (x3)] [] M r M') : Ev X 82 14 [fx_f a, .inl (x1), .inl (x2), .inl (x3)] [.inl (s0)] M r M' := by
  refine Ev.ifF fd_e82 rfl g (decide_eq_false h) ?_
  exact k
theorem r82_15 {X : fx_Sc} {M M' : fx_M} {r : Option fx_V} {a : Nat} {x1 x2 x3 : Int} (k : Ev X 82 4 [fx_f a, .inl (x1), .inl ((fx_or x2 (fx_shl 1 x3))), .inl ((x3 + 1))] [] M r M') : Ev X 82 15 [fx_f a, .inl (x1), .inl (x2), .inl (x3)] [] M r M' := by
  refine Ev.run 8 fd_e82 (i' := 4) (ls' := [fx_f a, .inl (x1), .inl ((fx_or x2 (fx_shl 1 x3))), .inl ((x3 + 1))]) (st' := []) (M1 := M) rfl ?_
  exact k
theorem r82_21 {X : fx_Sc} {M M' : fx_M} {r : Option fx_V} {a : Nat} {x1 x2 x3 : Int} (k : Ev X 82 4 [fx_f a, .inl (x1), .inl (x2), .inl ((x3 + 1))] [] M r M') : Ev X 82 21 [fx_f a, .inl (x1), .inl (x2), .inl (x3)] [] M r M' := by
  refine Ev.run 2 fd_e82 (i' := 4) (ls' := [fx_f a, .inl (x1), .inl (x2), .inl ((x3 + 1))]) (st' := []) (M1 := M) rfl ?_
  exact k
theorem r82_23 {X : fx_Sc} {M : fx_M} {a : Nat} {x1 x2 x3 : Int} : Ev X 82 23 [fx_f a, .inl (x1), .inl (x2), .inl (x3)] [] M (some (.inl (x2))) M := by
  refine Ev.run 1 fd_e82 (i' := 24) (ls' := [fx_f a, .inl (x1), .inl (x2), .inl (x3)]) (st' := [.inl (x2)]) (M1 := M) rfl ?_
  exact Ev.ret1 fd_e82 rfl rfl
-- 83: FoldedStrips$Strip.hasStroke(I)Z
theorem fd_e83 : fd_C 83 = fd_c83 := rfl
theorem r83_0 {X : fx_Sc} {M M' : fx_M} {r : Option fx_V} {a : Nat} {x1 z : Int} {M1 : fx_M} (hc : Ev X 6 0 [.inl (x1)] [] M (some (.inl z)) M1) (k : Ev X 83 2 [fx_f a, .inl (x1)] [.inl (z)] M1 r M') : Ev X 83 0 [fx_f a, .inl (x1)] [] M r M' := by
  refine Ev.run 1 fd_e83 (i' := 1) (ls' := [fx_f a, .inl (x1)]) (st' := [.inl (x1)]) (M1 := M) rfl ?_
  refine Ev.callS (vs := [.inl (x1)]) (rest := []) (r1 := (some (.inl z))) fd_e83 rfl rfl rfl (Nat.le_of_ble_eq_true rfl) (Nat.le_of_ble_eq_true rfl) hc ?_
  exact k
theorem r83_2T {X : fx_Sc} {M M' : fx_M} {r : Option fx_V} {a : Nat} {x1 s0 : Int} (g : (-2147483648 ≤ s0 ∧ s0 < 2147483648)) (h : s0 = 0) (k : Ev X 83 11 [fx_f a, .inl (x1)] [] M r M') : Ev X 83 2 [fx_f a, .inl (x1)] [.inl (s0)] M r M' := by
  refine Ev.ifT fd_e83 rfl g (decide_eq_true h) ?_
  exact k
theorem r83_2F {X : fx_Sc} {M M' : fx_M} {r : Option fx_V} {a : Nat} {x1 s0 : Int} (g : (-2147483648 ≤ s0 ∧ s0 < 2147483648)) (h : s0 ≠ 0) (k : Ev X 83 3 [fx_f a, .inl (x1)] [] M r M') : Ev X 83 2 [fx_f a, .inl (x1)] [.inl (s0)] M r M' := by
  refine Ev.ifF fd_e83 rfl g (decide_eq_false h) ?_
  exact k
theorem r83_3T {X : fx_Sc} {M M' : fx_M} {r : Option fx_V} {a : Nat} {x1 : Int} (ha : fd_isS a) (g : (0 ≤ x1 ∧ x1 < ((144 : Nat) : Int)) ∧ (-2147483648 ≤ (M (a + 1) (x1).toNat) ∧ (M (a + 1) (x1).toNat) < 2147483648)) (h : (M (a + 1) (x1).toNat) = (-1)) (k : Ev X 83 11 [fx_f a, .inl (x1)] [] M r M') : Ev X 83 3 [fx_f a, .inl (x1)] [] M r M' := by
  refine Ev.run 1 fd_e83 (i' := 4) (ls' := [fx_f a, .inl (x1)]) (st' := [fx_f a]) (M1 := M) rfl ?_
  refine Ev.getr fd_e83 rfl ha.1 rfl ?_
  refine Ev.run 1 fd_e83 (i' := 6) (ls' := [fx_f a, .inl (x1)]) (st' := [.inl (x1), fx_f (a + 1)]) (M1 := M) rfl ?_
  refine Ev.iald fd_e83 rfl ha.2.1 (by decide) g.1 ?_
  refine Ev.run 1 fd_e83 (i' := 8) (ls' := [fx_f a, .inl (x1)]) (st' := [.inl ((-1)), .inl ((M (a + 1) (x1).toNat))]) (M1 := M) rfl ?_
  refine Ev.icT fd_e83 rfl g.2 (by decide) (decide_eq_true h) ?_
  exact k
theorem r83_3F {X : fx_Sc} {M M' : fx_M} {r : Option fx_V} {a : Nat} {x1 : Int} (ha : fd_isS a) (g : (0 ≤ x1 ∧ x1 < ((144 : Nat) : Int)) ∧ (-2147483648 ≤ (M (a + 1) (x1).toNat) ∧ (M (a + 1) (x1).toNat) < 2147483648)) (h : (M (a + 1) (x1).toNat) ≠ (-1)) (k : Ev X 83 9 [fx_f a, .inl (x1)] [] M r M') : Ev X 83 3 [fx_f a, .inl (x1)] [] M r M' := by
  refine Ev.run 1 fd_e83 (i' := 4) (ls' := [fx_f a, .inl (x1)]) (st' := [fx_f a]) (M1 := M) rfl ?_
  refine Ev.getr fd_e83 rfl ha.1 rfl ?_
  refine Ev.run 1 fd_e83 (i' := 6) (ls' := [fx_f a, .inl (x1)]) (st' := [.inl (x1), fx_f (a + 1)]) (M1 := M) rfl ?_
  refine Ev.iald fd_e83 rfl ha.2.1 (by decide) g.1 ?_
  refine Ev.run 1 fd_e83 (i' := 8) (ls' := [fx_f a, .inl (x1)]) (st' := [.inl ((-1)), .inl ((M (a + 1) (x1).toNat))]) (M1 := M) rfl ?_
  refine Ev.icF fd_e83 rfl g.2 (by decide) (decide_eq_false h) ?_
  exact k
theorem r83_9 {X : fx_Sc} {M : fx_M} {a : Nat} {x1 : Int} : Ev X 83 9 [fx_f a, .inl (x1)] [] M (some (.inl (1))) M := by
  refine Ev.run 2 fd_e83 (i' := 12) (ls' := [fx_f a, .inl (x1)]) (st' := [.inl (1)]) (M1 := M) rfl ?_
  exact Ev.ret2 fd_e83 rfl rfl (by decide)
theorem r83_11 {X : fx_Sc} {M : fx_M} {a : Nat} {x1 : Int} : Ev X 83 11 [fx_f a, .inl (x1)] [] M (some (.inl (0))) M := by
  refine Ev.run 1 fd_e83 (i' := 12) (ls' := [fx_f a, .inl (x1)]) (st' := [.inl (0)]) (M1 := M) rfl ?_
  exact Ev.ret2 fd_e83 rfl rfl (by decide)
-- 84: FoldedStrips$Strip.otherEnd(I)I
theorem fd_e84 : fd_C 84 = fd_c84 := rfl
theorem r84_0 {X : fx_Sc} {M M' : fx_M} {r : Option fx_V} {a : Nat} {x1 z : Int} {M1 : fx_M} (hc : Ev X 6 0 [.inl (x1)] [] M (some (.inl z)) M1) (k : Ev X 84 2 [fx_f a, .inl (x1)] [.inl (z)] M1 r M') : Ev X 84 0 [fx_f a, .inl (x1)] [] M r M' := by
  refine Ev.run 1 fd_e84 (i' := 1) (ls' := [fx_f a, .inl (x1)]) (st' := [.inl (x1)]) (M1 := M) rfl ?_
  refine Ev.callS (vs := [.inl (x1)]) (rest := []) (r1 := (some (.inl z))) fd_e84 rfl rfl rfl (Nat.le_of_ble_eq_true rfl) (Nat.le_of_ble_eq_true rfl) hc ?_
  exact k
theorem r84_2T {X : fx_Sc} {M M' : fx_M} {r : Option fx_V} {a : Nat} {x1 s0 : Int} (g : (-2147483648 ≤ s0 ∧ s0 < 2147483648)) (h : s0 = 0) (k : Ev X 84 8 [fx_f a, .inl (x1)] [] M r M') : Ev X 84 2 [fx_f a, .inl (x1)] [.inl (s0)] M r M' := by
  refine Ev.ifT fd_e84 rfl g (decide_eq_true h) ?_
  exact k
theorem r84_2F {X : fx_Sc} {M M' : fx_M} {r : Option fx_V} {a : Nat} {x1 s0 : Int} (g : (-2147483648 ≤ s0 ∧ s0 < 2147483648)) (h : s0 ≠ 0) (k : Ev X 84 3 [fx_f a, .inl (x1)] [] M r M') : Ev X 84 2 [fx_f a, .inl (x1)] [.inl (s0)] M r M' := by
  refine Ev.ifF fd_e84 rfl g (decide_eq_false h) ?_
  exact k
theorem r84_3 {X : fx_Sc} {M : fx_M} {a : Nat} {x1 : Int} (ha : fd_isS a) (g : (0 ≤ x1 ∧ x1 < ((144 : Nat) : Int))) : Ev X 84 3 [fx_f a, .inl (x1)] [] M (some (.inl ((M (a + 1) (x1).toNat)))) M := by
  refine Ev.run 1 fd_e84 (i' := 4) (ls' := [fx_f a, .inl (x1)]) (st' := [fx_f a]) (M1 := M) rfl ?_
  refine Ev.getr fd_e84 rfl ha.1 rfl ?_
  refine Ev.run 1 fd_e84 (i' := 6) (ls' := [fx_f a, .inl (x1)]) (st' := [.inl (x1), fx_f (a + 1)]) (M1 := M) rfl ?_
  refine Ev.iald fd_e84 rfl ha.2.1 (by decide) g ?_
  refine Ev.run 1 fd_e84 (i' := 9) (ls' := [fx_f a, .inl (x1)]) (st' := [.inl ((M (a + 1) (x1).toNat))]) (M1 := M) rfl ?_
  exact Ev.ret1 fd_e84 rfl rfl
theorem r84_8 {X : fx_Sc} {M : fx_M} {a : Nat} {x1 : Int} : Ev X 84 8 [fx_f a, .inl (x1)] [] M (some (.inl ((-1)))) M := by
  refine Ev.run 1 fd_e84 (i' := 9) (ls' := [fx_f a, .inl (x1)]) (st' := [.inl ((-1))]) (M1 := M) rfl ?_
  exact Ev.ret1 fd_e84 rfl rfl
-- 85: FoldedStrips$Strip.unlink(III)V
theorem fd_e85 : fd_C 85 = fd_c85 := rfl
theorem r85_0 {X : fx_Sc} {M M' : fx_M} {r : Option fx_V} {a : Nat} {x1 x2 x3 z : Int} {M1 : fx_M} (hc : Ev X 1 0 [.inl (x1)] [] M (some (.inl z)) M1) (k : Ev X 85 2 [fx_f a, .inl (x1), .inl (x2), .inl (x3)] [.inl (z)] M1 r M') : Ev X 85 0 [fx_f a, .inl (x1), .inl (x2), .inl (x3)] [] M r M' := by
  refine Ev.run 1 fd_e85 (i' := 1) (ls' := [fx_f a, .inl (x1), .inl (x2), .inl (x3)]) (st' := [.inl (x1)]) (M1 := M) rfl ?_
  refine Ev.callS (vs := [.inl (x1)]) (rest := []) (r1 := (some (.inl z))) fd_e85 rfl rfl rfl (Nat.le_of_ble_eq_true rfl) (Nat.le_of_ble_eq_true rfl) hc ?_
  exact k
theorem r85_2T {X : fx_Sc} {M M' : fx_M} {r : Option fx_V} {a : Nat} {x1 x2 x3 s0 : Int} (g : (-2147483648 ≤ s0 ∧ s0 < 2147483648)) (h : s0 = 0) (k : Ev X 85 23 [fx_f a, .inl (x1), .inl (x2), .inl (x3)] [] M r M') : Ev X 85 2 [fx_f a, .inl (x1), .inl (x2), .inl (x3)] [.inl (s0)] M r M' := by
  refine Ev.ifT fd_e85 rfl g (decide_eq_true h) ?_
  exact k
theorem r85_2F {X : fx_Sc} {M M' : fx_M} {r : Option fx_V} {a : Nat} {x1 x2 x3 s0 : Int} (g : (-2147483648 ≤ s0 ∧ s0 < 2147483648)) (h : s0 ≠ 0) (k : Ev X 85 3 [fx_f a, .inl (x1), .inl (x2), .inl (x3)] [] M r M') : Ev X 85 2 [fx_f a, .inl (x1), .inl (x2), .inl (x3)] [.inl (s0)] M r M' := by
  refine Ev.ifF fd_e85 rfl g (decide_eq_false h) ?_
  exact k
theorem r85_3 {X : fx_Sc} {M M' : fx_M} {r : Option fx_V} {a : Nat} {x1 x2 x3 z : Int} {M1 : fx_M} (hc : Ev X 4 0 [.inl (x2)] [] M (some (.inl z)) M1) (k : Ev X 85 5 [fx_f a, .inl (x1), .inl (x2), .inl (x3)] [.inl (z)] M1 r M') : Ev X 85 3 [fx_f a, .inl (x1), .inl (x2), .inl (x3)] [] M r M' := by
  refine Ev.run 1 fd_e85 (i' := 4) (ls' := [fx_f a, .inl (x1), .inl (x2), .inl (x3)]) (st' := [.inl (x2)]) (M1 := M) rfl ?_
  refine Ev.callS (vs := [.inl (x2)]) (rest := []) (r1 := (some (.inl z))) fd_e85 rfl rfl rfl (Nat.le_of_ble_eq_true rfl) (Nat.le_of_ble_eq_true rfl) hc ?_
  exact k
theorem r85_5T {X : fx_Sc} {M M' : fx_M} {r : Option fx_V} {a : Nat} {x1 x2 x3 s0 : Int} (g : (-2147483648 ≤ s0 ∧ s0 < 2147483648)) (h : s0 = 0) (k : Ev X 85 23 [fx_f a, .inl (x1), .inl (x2), .inl (x3)] [] M r M') : Ev X 85 5 [fx_f a, .inl (x1), .inl (x2), .inl (x3)] [.inl (s0)] M r M' := by
  refine Ev.ifT fd_e85 rfl g (decide_eq_true h) ?_
  exact k
theorem r85_5F {X : fx_Sc} {M M' : fx_M} {r : Option fx_V} {a : Nat} {x1 x2 x3 s0 : Int} (g : (-2147483648 ≤ s0 ∧ s0 < 2147483648)) (h : s0 ≠ 0) (k : Ev X 85 6 [fx_f a, .inl (x1), .inl (x2), .inl (x3)] [] M r M') : Ev X 85 5 [fx_f a, .inl (x1), .inl (x2), .inl (x3)] [.inl (s0)] M r M' := by
  refine Ev.ifF fd_e85 rfl g (decide_eq_false h) ?_
  exact k
theorem r85_6 {X : fx_Sc} {M M' : fx_M} {r : Option fx_V} {a : Nat} {x1 x2 x3 z : Int} {M1 : fx_M} (hc : Ev X 4 0 [.inl (x3)] [] M (some (.inl z)) M1) (k : Ev X 85 8 [fx_f a, .inl (x1), .inl (x2), .inl (x3)] [.inl (z)] M1 r M') : Ev X 85 6 [fx_f a, .inl (x1), .inl (x2), .inl (x3)] [] M r M' := by
  refine Ev.run 1 fd_e85 (i' := 7) (ls' := [fx_f a, .inl (x1), .inl (x2), .inl (x3)]) (st' := [.inl (x3)]) (M1 := M) rfl ?_
  refine Ev.callS (vs := [.inl (x3)]) (rest := []) (r1 := (some (.inl z))) fd_e85 rfl rfl rfl (Nat.le_of_ble_eq_true rfl) (Nat.le_of_ble_eq_true rfl) hc ?_
  exact k
theorem r85_8T {X : fx_Sc} {M M' : fx_M} {r : Option fx_V} {a : Nat} {x1 x2 x3 s0 : Int} (g : (-2147483648 ≤ s0 ∧ s0 < 2147483648)) (h : s0 = 0) (k : Ev X 85 23 [fx_f a, .inl (x1), .inl (x2), .inl (x3)] [] M r M') : Ev X 85 8 [fx_f a, .inl (x1), .inl (x2), .inl (x3)] [.inl (s0)] M r M' := by
  refine Ev.ifT fd_e85 rfl g (decide_eq_true h) ?_
  exact k
theorem r85_8F {X : fx_Sc} {M M' : fx_M} {r : Option fx_V} {a : Nat} {x1 x2 x3 s0 : Int} (g : (-2147483648 ≤ s0 ∧ s0 < 2147483648)) (h : s0 ≠ 0) (k : Ev X 85 9 [fx_f a, .inl (x1), .inl (x2), .inl (x3)] [] M r M') : Ev X 85 8 [fx_f a, .inl (x1), .inl (x2), .inl (x3)] [.inl (s0)] M r M' := by
  refine Ev.ifF fd_e85 rfl g (decide_eq_false h) ?_
  exact k
theorem r85_9 {X : fx_Sc} {M M' : fx_M} {r : Option fx_V} {a : Nat} {x1 x2 x3 z : Int} {M1 : fx_M} (ha : fd_isS a) (hc : Ev X 3 0 [.inl (x1), .inl (x2)] [] M (some (.inl z)) M1) (k : Ev X 85 14 [fx_f a, .inl (x1), .inl (x2), .inl (x3)] [.inl (z), fx_f (a + 1)] M1 r M') : Ev X 85 9 [fx_f a, .inl (x1), .inl (x2), .inl (x3)] [] M r M' := by
  refine Ev.run 1 fd_e85 (i' := 10) (ls' := [fx_f a, .inl (x1), .inl (x2), .inl (x3)]) (st' := [fx_f a]) (M1 := M) rfl ?_
  refine Ev.getr fd_e85 rfl ha.1 rfl ?_
  refine Ev.run 2 fd_e85 (i' := 13) (ls' := [fx_f a, .inl (x1), .inl (x2), .inl (x3)]) (st' := [.inl (x2), .inl (x1), fx_f (a + 1)]) (M1 := M) rfl ?_
  refine Ev.callS (vs := [.inl (x1), .inl (x2)]) (rest := [fx_f (a + 1)]) (r1 := (some (.inl z))) fd_e85 rfl rfl rfl (Nat.le_of_ble_eq_true rfl) (Nat.le_of_ble_eq_true rfl) hc ?_
  exact k
theorem r85_14 {X : fx_Sc} {M M' : fx_M} {r : Option fx_V} {a : Nat} {x1 x2 x3 s1 z : Int} {M1 : fx_M} (ha : fd_isS a) (g : (0 ≤ s1 ∧ s1 < ((144 : Nat) : Int))) (hc : Ev X 3 0 [.inl (x1), .inl (x3)] [] (fx_set M (a + 1) (fx_up (M (a + 1)) (s1).toNat (-1))) (some (.inl z)) M1) (k : Ev X 85 21 [fx_f a, .inl (x1), .inl (x2), .inl (x3)] [.inl (z), fx_f (a + 1)] M1 r M') : Ev X 85 14 [fx_f a, .inl (x1), .inl (x2), .inl (x3)] [.inl (s1), fx_f (a + 1)] M r M' := by
  refine Ev.run 1 fd_e85 (i' := 15) (ls' := [fx_f a, .inl (x1), .inl (x2), .inl (x3)]) (st' := [.inl ((-1)), .inl (s1), fx_f (a + 1)]) (M1 := M) rfl ?_
  refine Ev.iast fd_e85 rfl ha.2.1 (by decide) g ?_
  refine Ev.run 1 fd_e85 (i' := 17) (ls' := [fx_f a, .inl (x1), .inl (x2), .inl (x3)]) (st' := [fx_f a]) (M1 := (fx_set M (a + 1) (fx_up (M (a + 1)) (s1).toNat (-1)))) rfl ?_
  refine Ev.getr fd_e85 rfl ha.1 rfl ?_
  refine Ev.run 2 fd_e85 (i' := 20) (ls' := [fx_f a, .inl (x1), .inl (x2), .inl (x3)]) (st' := [.inl (x3), .inl (x1), fx_f (a + 1)]) (M1 := (fx_set M (a + 1) (fx_up (M (a + 1)) (s1).toNat (-1)))) rfl ?_
  refine Ev.callS (vs := [.inl (x1), .inl (x3)]) (rest := [fx_f (a + 1)]) (r1 := (some (.inl z))) fd_e85 rfl rfl rfl (Nat.le_of_ble_eq_true rfl) (Nat.le_of_ble_eq_true rfl) hc ?_
  exact k
theorem r85_21 {X : fx_Sc} {M : fx_M} {a : Nat} {x1 x2 x3 s1 : Int} (ha : fd_isS a) (g : (0 ≤ s1 ∧ s1 < ((144 : Nat) : Int))) : Ev X 85 21 [fx_f a, .inl (x1), .inl (x2), .inl (x3)] [.inl (s1), fx_f (a + 1)] M none (fx_set M (a + 1) (fx_up (M (a + 1)) (s1).toNat (-1))) := by
  refine Ev.run 1 fd_e85 (i' := 22) (ls' := [fx_f a, .inl (x1), .inl (x2), .inl (x3)]) (st' := [.inl ((-1)), .inl (s1), fx_f (a + 1)]) (M1 := M) rfl ?_
  refine Ev.iast fd_e85 rfl ha.2.1 (by decide) g ?_
  exact Ev.retv fd_e85 rfl rfl
theorem r85_23 {X : fx_Sc} {M : fx_M} {a : Nat} {x1 x2 x3 : Int} : Ev X 85 23 [fx_f a, .inl (x1), .inl (x2), .inl (x3)] [] M none M := by
  exact Ev.retv fd_e85 rfl rfl
-- 86: FoldedStrips$Strip.canShift(II)Z
theorem fd_e86 : fd_C 86 = fd_c86 := rfl
theorem r86_0 {X : fx_Sc} {M M' : fx_M} {r : Option fx_V} {a : Nat} {x1 x2 z : Int} {M1 : fx_M} (hc : Ev X 5 0 [.inl (x1)] [] M (some (.inl z)) M1) (k : Ev X 86 3 [fx_f a, .inl (x1), .inl (x2), fx_u, fx_u, fx_u] [.inl (z), fx_f a] M1 r M') : Ev X 86 0 [fx_f a, .inl (x1), .inl (x2), fx_u, fx_u, fx_u] [] M r M' := by
  refine Ev.run 2 fd_e86 (i' := 2) (ls' := [fx_f a, .inl (x1), .inl (x2), fx_u, fx_u, fx_u]) (st' := [.inl (x1), fx_f a]) (M1 := M) rfl ?_
  refine Ev.callS (vs := [.inl (x1)]) (rest := [fx_f a]) (r1 := (some (.inl z))) fd_e86 rfl rfl rfl (Nat.le_of_ble_eq_true rfl) (Nat.le_of_ble_eq_true rfl) hc ?_
  exact k
theorem r86_3 {X : fx_Sc} {M M' : fx_M} {r : Option fx_V} {a : Nat} {x1 x2 s1 z : Int} {M1 : fx_M} (ha : fd_isS a) (hc : Ev X 82 0 [fx_f a, .inl (s1), fx_u, fx_u] [] M (some (.inl z)) M1) (k : Ev X 86 4 [fx_f a, .inl (x1), .inl (x2), fx_u, fx_u, fx_u] [.inl (z)] M1 r M') : Ev X 86 3 [fx_f a, .inl (x1), .inl (x2), fx_u, fx_u, fx_u] [.inl (s1), fx_f a] M r M' := by
  refine Ev.callV (vs := [fx_f a, .inl (s1)]) (rest := []) (r1 := (some (.inl z))) fd_e86 rfl rfl rfl (Nat.le_of_ble_eq_true rfl) (Nat.le_of_ble_eq_true rfl) (fd_rcvS ha) hc ?_
  exact k
theorem r86_4 {X : fx_Sc} {M M' : fx_M} {r : Option fx_V} {a : Nat} {x1 x2 s0 z : Int} {M1 : fx_M} (hc : Ev X 7 0 [.inl (x1)] [] M (some (.inl z)) M1) (k : Ev X 86 7 [fx_f a, .inl (x1), .inl (x2), fx_u, fx_u, fx_u] [.inl (z), fx_f a, .inl (s0)] M1 r M') : Ev X 86 4 [fx_f a, .inl (x1), .inl (x2), fx_u, fx_u, fx_u] [.inl (s0)] M r M' := by
  refine Ev.run 2 fd_e86 (i' := 6) (ls' := [fx_f a, .inl (x1), .inl (x2), fx_u, fx_u, fx_u]) (st' := [.inl (x1), fx_f a, .inl (s0)]) (M1 := M) rfl ?_
  refine Ev.callS (vs := [.inl (x1)]) (rest := [fx_f a, .inl (s0)]) (r1 := (some (.inl z))) fd_e86 rfl rfl rfl (Nat.le_of_ble_eq_true rfl) (Nat.le_of_ble_eq_true rfl) hc ?_
  exact k
theorem r86_7 {X : fx_Sc} {M M' : fx_M} {r : Option fx_V} {a : Nat} {x1 x2 s0 s2 z : Int} {M1 : fx_M} (ha : fd_isS a) (hc : Ev X 82 0 [fx_f a, .inl (s2), fx_u, fx_u] [] M (some (.inl z)) M1) (k : Ev X 86 8 [fx_f a, .inl (x1), .inl (x2), fx_u, fx_u, fx_u] [.inl (z), .inl (s0)] M1 r M') : Ev X 86 7 [fx_f a, .inl (x1), .inl (x2), fx_u, fx_u, fx_u] [.inl (s2), fx_f a, .inl (s0)] M r M' := by
  refine Ev.callV (vs := [fx_f a, .inl (s2)]) (rest := [.inl (s0)]) (r1 := (some (.inl z))) fd_e86 rfl rfl rfl (Nat.le_of_ble_eq_true rfl) (Nat.le_of_ble_eq_true rfl) (fd_rcvS ha) hc ?_
  exact k
theorem r86_8 {X : fx_Sc} {M M' : fx_M} {r : Option fx_V} {a : Nat} {x1 x2 s0 s1 : Int} (k : Ev X 86 12 [fx_f a, .inl (x1), .inl (x2), .inl ((fx_or s0 s1)), .inl (0), fx_u] [] M r M') : Ev X 86 8 [fx_f a, .inl (x1), .inl (x2), fx_u, fx_u, fx_u] [.inl (s1), .inl (s0)] M r M' := by
  refine Ev.run 4 fd_e86 (i' := 12) (ls' := [fx_f a, .inl (x1), .inl (x2), .inl ((fx_or s0 s1)), .inl (0), fx_u]) (st' := []) (M1 := M) rfl ?_
  exact k
theorem r86_12T {X : fx_Sc} {M M' : fx_M} {r : Option fx_V} {a : Nat} {x1 x2 x3 x4 : Int} {v5 : fx_V} (g : (-2147483648 ≤ x4 ∧ x4 < 2147483648)) (h : 12 ≤ x4) (k : Ev X 86 40 [fx_f a, .inl (x1), .inl (x2), .inl (x3), .inl (x4), v5] [] M r M') : Ev X 86 12 [fx_f a, .inl (x1), .inl (x2), .inl (x3), .inl (x4), v5] [] M r M' := by
  refine Ev.run 2 fd_e86 (i' := 14) (ls' := [fx_f a, .inl (x1), .inl (x2), .inl (x3), .inl (x4), v5]) (st' := [.inl (12), .inl (x4)]) (M1 := M) rfl ?_
  refine Ev.icT fd_e86 rfl g (by decide) (decide_eq_true h) ?_
  exact k
theorem r86_12F {X : fx_Sc} {M M' : fx_M} {r : Option fx_V} {a : Nat} {x1 x2 x3 x4 : Int} {v5 : fx_V} (g : (-2147483648 ≤ x4 ∧ x4 < 2147483648)) (h : x4 < 12) (k : Ev X 86 15 [fx_f a, .inl (x1), .inl (x2), .inl (x3), .inl (x4), v5] [] M r M') : Ev X 86 12 [fx_f a, .inl (x1), .inl (x2), .inl (x3), .inl (x4), v5] [] M r M' := by
  refine Ev.run 2 fd_e86 (i' := 14) (ls' := [fx_f a, .inl (x1), .inl (x2), .inl (x3), .inl (x4), v5]) (st' := [.inl (12), .inl (x4)]) (M1 := M) rfl ?_
  refine Ev.icF fd_e86 rfl g (by decide) (decide_eq_false (Int.not_le.mpr h)) ?_
  exact k
theorem r86_15T {X : fx_Sc} {M M' : fx_M} {r : Option fx_V} {a : Nat} {x1 x2 x3 x4 : Int} {v5 : fx_V} (g : (-2147483648 ≤ (x4 + x2) ∧ (x4 + x2) < 2147483648)) (h : (x4 + x2) < 0) (k : Ev X 86 24 [fx_f a, .inl (x1), .inl (x2), .inl (x3), .inl (x4), v5] [] M r M') : Ev X 86 15 [fx_f a, .inl (x1), .inl (x2), .inl (x3), .inl (x4), v5] [] M r M' := by
  refine Ev.run 3 fd_e86 (i' := 18) (ls' := [fx_f a, .inl (x1), .inl (x2), .inl (x3), .inl (x4), v5]) (st' := [.inl ((x4 + x2))]) (M1 := M) rfl ?_
  refine Ev.ifT fd_e86 rfl g (decide_eq_true h) ?_
  exact k
theorem r86_15F {X : fx_Sc} {M M' : fx_M} {r : Option fx_V} {a : Nat} {x1 x2 x3 x4 : Int} {v5 : fx_V} (g : (-2147483648 ≤ (x4 + x2) ∧ (x4 + x2) < 2147483648)) (h : 0 ≤ (x4 + x2)) (k : Ev X 86 19 [fx_f a, .inl (x1), .inl (x2), .inl (x3), .inl (x4), v5] [] M r M') : Ev X 86 15 [fx_f a, .inl (x1), .inl (x2), .inl (x3), .inl (x4), v5] [] M r M' := by
  refine Ev.run 3 fd_e86 (i' := 18) (ls' := [fx_f a, .inl (x1), .inl (x2), .inl (x3), .inl (x4), v5]) (st' := [.inl ((x4 + x2))]) (M1 := M) rfl ?_
  refine Ev.ifF fd_e86 rfl g (decide_eq_false (Int.not_lt.mpr h)) ?_
  exact k
theorem r86_19T {X : fx_Sc} {M M' : fx_M} {r : Option fx_V} {a : Nat} {x1 x2 x3 x4 : Int} {v5 : fx_V} (g : (-2147483648 ≤ (x4 + x2) ∧ (x4 + x2) < 2147483648)) (h : (x4 + x2) < 12) (k : Ev X 86 26 [fx_f a, .inl (x1), .inl (x2), .inl (x3), .inl (x4), v5] [] M r M') : Ev X 86 19 [fx_f a, .inl (x1), .inl (x2), .inl (x3), .inl (x4), v5] [] M r M' := by
  refine Ev.run 4 fd_e86 (i' := 23) (ls' := [fx_f a, .inl (x1), .inl (x2), .inl (x3), .inl (x4), v5]) (st' := [.inl (12), .inl ((x4 + x2))]) (M1 := M) rfl ?_
  refine Ev.icT fd_e86 rfl g (by decide) (decide_eq_true h) ?_
  exact k
theorem r86_19F {X : fx_Sc} {M M' : fx_M} {r : Option fx_V} {a : Nat} {x1 x2 x3 x4 : Int} {v5 : fx_V} (g : (-2147483648 ≤ (x4 + x2) ∧ (x4 + x2) < 2147483648)) (h : 12 ≤ (x4 + x2)) (k : Ev X 86 24 [fx_f a, .inl (x1), .inl (x2), .inl (x3), .inl (x4), v5] [] M r M') : Ev X 86 19 [fx_f a, .inl (x1), .inl (x2), .inl (x3), .inl (x4), v5] [] M r M' := by
  refine Ev.run 4 fd_e86 (i' := 23) (ls' := [fx_f a, .inl (x1), .inl (x2), .inl (x3), .inl (x4), v5]) (st' := [.inl (12), .inl ((x4 + x2))]) (M1 := M) rfl ?_
  refine Ev.icF fd_e86 rfl g (by decide) (decide_eq_false (Int.not_lt.mpr h)) ?_
  exact k
theorem r86_24T {X : fx_Sc} {M M' : fx_M} {r : Option fx_V} {a : Nat} {x1 x2 x3 x4 : Int} {v5 : fx_V} (g : (-2147483648 ≤ (fx_and x3 (fx_shl 1 x4)) ∧ (fx_and x3 (fx_shl 1 x4)) < 2147483648)) (h : (fx_and x3 (fx_shl 1 x4)) = 0) (k : Ev X 86 38 [fx_f a, .inl (x1), .inl (x2), .inl (x3), .inl (x4), .inl (1)] [] M r M') : Ev X 86 24 [fx_f a, .inl (x1), .inl (x2), .inl (x3), .inl (x4), v5] [] M r M' := by
  refine Ev.run 4 fd_e86 (i' := 29) (ls' := [fx_f a, .inl (x1), .inl (x2), .inl (x3), .inl (x4), .inl (1)]) (st' := [.inl (1)]) (M1 := M) rfl ?_
  refine Ev.ifF fd_e86 rfl (by decide) (by decide) ?_
  refine Ev.run 5 fd_e86 (i' := 35) (ls' := [fx_f a, .inl (x1), .inl (x2), .inl (x3), .inl (x4), .inl (1)]) (st' := [.inl ((fx_and x3 (fx_shl 1 x4)))]) (M1 := M) rfl ?_
  refine Ev.ifT fd_e86 rfl g (decide_eq_true h) ?_
  exact k
theorem r86_24F {X : fx_Sc} {M M' : fx_M} {r : Option fx_V} {a : Nat} {x1 x2 x3 x4 : Int} {v5 : fx_V} (g : (-2147483648 ≤ (fx_and x3 (fx_shl 1 x4)) ∧ (fx_and x3 (fx_shl 1 x4)) < 2147483648)) (h : (fx_and x3 (fx_shl 1 x4)) ≠ 0) (k : Ev X 86 36 [fx_f a, .inl (x1), .inl (x2), .inl (x3), .inl (x4), .inl (1)] [] M r M') : Ev X 86 24 [fx_f a, .inl (x1), .inl (x2), .inl (x3), .inl (x4), v5] [] M r M' := by
  refine Ev.run 4 fd_e86 (i' := 29) (ls' := [fx_f a, .inl (x1), .inl (x2), .inl (x3), .inl (x4), .inl (1)]) (st' := [.inl (1)]) (M1 := M) rfl ?_
  refine Ev.ifF fd_e86 rfl (by decide) (by decide) ?_
  refine Ev.run 5 fd_e86 (i' := 35) (ls' := [fx_f a, .inl (x1), .inl (x2), .inl (x3), .inl (x4), .inl (1)]) (st' := [.inl ((fx_and x3 (fx_shl 1 x4)))]) (M1 := M) rfl ?_
  refine Ev.ifF fd_e86 rfl g (decide_eq_false h) ?_
  exact k
theorem r86_26 {X : fx_Sc} {M M' : fx_M} {r : Option fx_V} {a : Nat} {x1 x2 x3 x4 : Int} {v5 : fx_V} (k : Ev X 86 12 [fx_f a, .inl (x1), .inl (x2), .inl (x3), .inl ((x4 + 1)), .inl (0)] [] M r M') : Ev X 86 26 [fx_f a, .inl (x1), .inl (x2), .inl (x3), .inl (x4), v5] [] M r M' := by
  refine Ev.run 3 fd_e86 (i' := 29) (ls' := [fx_f a, .inl (x1), .inl (x2), .inl (x3), .inl (x4), .inl (0)]) (st' := [.inl (0)]) (M1 := M) rfl ?_
  refine Ev.ifT fd_e86 rfl (by decide) (by decide) ?_
  refine Ev.run 2 fd_e86 (i' := 12) (ls' := [fx_f a, .inl (x1), .inl (x2), .inl (x3), .inl ((x4 + 1)), .inl (0)]) (st' := []) (M1 := M) rfl ?_
  exact k
theorem r86_30T {X : fx_Sc} {M M' : fx_M} {r : Option fx_V} {a : Nat} {x1 x2 x3 x4 x5 : Int} (g : (-2147483648 ≤ (fx_and x3 (fx_shl 1 x4)) ∧ (fx_and x3 (fx_shl 1 x4)) < 2147483648)) (h : (fx_and x3 (fx_shl 1 x4)) = 0) (k : Ev X 86 38 [fx_f a, .inl (x1), .inl (x2), .inl (x3), .inl (x4), .inl (x5)] [] M r M') : Ev X 86 30 [fx_f a, .inl (x1), .inl (x2), .inl (x3), .inl (x4), .inl (x5)] [] M r M' := by
  refine Ev.run 5 fd_e86 (i' := 35) (ls' := [fx_f a, .inl (x1), .inl (x2), .inl (x3), .inl (x4), .inl (x5)]) (st' := [.inl ((fx_and x3 (fx_shl 1 x4)))]) (M1 := M) rfl ?_
  refine Ev.ifT fd_e86 rfl g (decide_eq_true h) ?_
  exact k
theorem r86_30F {X : fx_Sc} {M M' : fx_M} {r : Option fx_V} {a : Nat} {x1 x2 x3 x4 x5 : Int} (g : (-2147483648 ≤ (fx_and x3 (fx_shl 1 x4)) ∧ (fx_and x3 (fx_shl 1 x4)) < 2147483648)) (h : (fx_and x3 (fx_shl 1 x4)) ≠ 0) (k : Ev X 86 36 [fx_f a, .inl (x1), .inl (x2), .inl (x3), .inl (x4), .inl (x5)] [] M r M') : Ev X 86 30 [fx_f a, .inl (x1), .inl (x2), .inl (x3), .inl (x4), .inl (x5)] [] M r M' := by
  refine Ev.run 5 fd_e86 (i' := 35) (ls' := [fx_f a, .inl (x1), .inl (x2), .inl (x3), .inl (x4), .inl (x5)]) (st' := [.inl ((fx_and x3 (fx_shl 1 x4)))]) (M1 := M) rfl ?_
  refine Ev.ifF fd_e86 rfl g (decide_eq_false h) ?_
  exact k
theorem r86_36 {X : fx_Sc} {M : fx_M} {a : Nat} {x1 x2 x3 x4 x5 : Int} : Ev X 86 36 [fx_f a, .inl (x1), .inl (x2), .inl (x3), .inl (x4), .inl (x5)] [] M (some (.inl (0))) M := by
  refine Ev.run 1 fd_e86 (i' := 37) (ls' := [fx_f a, .inl (x1), .inl (x2), .inl (x3), .inl (x4), .inl (x5)]) (st' := [.inl (0)]) (M1 := M) rfl ?_
  exact Ev.ret2 fd_e86 rfl rfl (by decide)
theorem r86_38 {X : fx_Sc} {M M' : fx_M} {r : Option fx_V} {a : Nat} {x1 x2 x3 x4 x5 : Int} (k : Ev X 86 12 [fx_f a, .inl (x1), .inl (x2), .inl (x3), .inl ((x4 + 1)), .inl (x5)] [] M r M') : Ev X 86 38 [fx_f a, .inl (x1), .inl (x2), .inl (x3), .inl (x4), .inl (x5)] [] M r M' := by
  refine Ev.run 2 fd_e86 (i' := 12) (ls' := [fx_f a, .inl (x1), .inl (x2), .inl (x3), .inl ((x4 + 1)), .inl (x5)]) (st' := []) (M1 := M) rfl ?_
  exact k
theorem r86_40 {X : fx_Sc} {M : fx_M} {a : Nat} {x1 x2 x3 x4 : Int} {v5 : fx_V} : Ev X 86 40 [fx_f a, .inl (x1), .inl (x2), .inl (x3), .inl (x4), v5] [] M (some (.inl (1))) M := by
  refine Ev.run 1 fd_e86 (i' := 41) (ls' := [fx_f a, .inl (x1), .inl (x2), .inl (x3), .inl (x4), v5]) (st' := [.inl (1)]) (M1 := M) rfl ?_
  exact Ev.ret2 fd_e86 rfl rfl (by decide)
-- 87: FoldedStrips$Strip.shift(II)V
theorem fd_e87 : fd_C 87 = fd_c87 := rfl
theorem r87_0 {X : fx_Sc} {M M' : fx_M} {r : Option fx_V} {a : Nat} {x1 x2 : Int} {M1 : fx_M} (ha : fd_isS a) (hc : Ev X 88 0 [fx_f a, .inl (x1), fx_u] [] M none M1) (k : Ev X 87 3 [fx_f a, .inl (x1), .inl (x2), fx_u] [] M1 r M') : Ev X 87 0 [fx_f a, .inl (x1), .inl (x2), fx_u] [] M r M' := by
  refine Ev.run 2 fd_e87 (i' := 2) (ls' := [fx_f a, .inl (x1), .inl (x2), fx_u]) (st' := [.inl (x1), fx_f a]) (M1 := M) rfl ?_
  refine Ev.callV (vs := [fx_f a, .inl (x1)]) (rest := []) (r1 := none) fd_e87 rfl rfl rfl (Nat.le_of_ble_eq_true rfl) (Nat.le_of_ble_eq_true rfl) (fd_rcvS ha) hc ?_
  exact k
theorem r87_3 {X : fx_Sc} {M M' : fx_M} {r : Option fx_V} {a : Nat} {x1 x2 : Int} (k : Ev X 87 5 [fx_f a, .inl (x1), .inl (x2), .inl (0)] [] M r M') : Ev X 87 3 [fx_f a, .inl (x1), .inl (x2), fx_u] [] M r M' := by
  refine Ev.run 2 fd_e87 (i' := 5) (ls' := [fx_f a, .inl (x1), .inl (x2), .inl (0)]) (st' := []) (M1 := M) rfl ?_
  exact k
theorem r87_5T {X : fx_Sc} {M M' : fx_M} {r : Option fx_V} {a : Nat} {x1 x2 x3 : Int} (g : (-2147483648 ≤ x3 ∧ x3 < 2147483648)) (h : 24 ≤ x3) (k : Ev X 87 28 [fx_f a, .inl (x1), .inl (x2), .inl (x3)] [] M r M') : Ev X 87 5 [fx_f a, .inl (x1), .inl (x2), .inl (x3)] [] M r M' := by
  refine Ev.run 2 fd_e87 (i' := 7) (ls' := [fx_f a, .inl (x1), .inl (x2), .inl (x3)]) (st' := [.inl (24), .inl (x3)]) (M1 := M) rfl ?_
  refine Ev.icT fd_e87 rfl g (by decide) (decide_eq_true h) ?_
  exact k
theorem r87_5F {X : fx_Sc} {M M' : fx_M} {r : Option fx_V} {a : Nat} {x1 x2 x3 : Int} (g : (-2147483648 ≤ x3 ∧ x3 < 2147483648)) (h : x3 < 24) (k : Ev X 87 8 [fx_f a, .inl (x1), .inl (x2), .inl (x3)] [] M r M') : Ev X 87 5 [fx_f a, .inl (x1), .inl (x2), .inl (x3)] [] M r M' := by
  refine Ev.run 2 fd_e87 (i' := 7) (ls' := [fx_f a, .inl (x1), .inl (x2), .inl (x3)]) (st' := [.inl (24), .inl (x3)]) (M1 := M) rfl ?_
  refine Ev.icF fd_e87 rfl g (by decide) (decide_eq_false (Int.not_le.mpr h)) ?_
  exact k
theorem r87_8T {X : fx_Sc} {M M' : fx_M} {r : Option fx_V} {a : Nat} {x1 x2 x3 : Int} (ha : fd_isS a) (g : (0 ≤ x3 ∧ x3 < ((24 : Nat) : Int)) ∧ (-2147483648 ≤ (M (a + 3) (x3).toNat) ∧ (M (a + 3) (x3).toNat) < 2147483648)) (h : (M (a + 3) (x3).toNat) = (-1)) (k : Ev X 87 26 [fx_f a, .inl (x1), .inl (x2), .inl (x3)] [] M r M') : Ev X 87 8 [fx_f a, .inl (x1), .inl (x2), .inl (x3)] [] M r M' := by
  refine Ev.run 1 fd_e87 (i' := 9) (ls' := [fx_f a, .inl (x1), .inl (x2), .inl (x3)]) (st' := [fx_f a]) (M1 := M) rfl ?_
  refine Ev.getr fd_e87 rfl ha.1 rfl ?_
  refine Ev.run 1 fd_e87 (i' := 11) (ls' := [fx_f a, .inl (x1), .inl (x2), .inl (x3)]) (st' := [.inl (x3), fx_f (a + 3)]) (M1 := M) rfl ?_
  refine Ev.iald fd_e87 rfl ha.2.2.2 (by decide) g.1 ?_
  refine Ev.run 1 fd_e87 (i' := 13) (ls' := [fx_f a, .inl (x1), .inl (x2), .inl (x3)]) (st' := [.inl ((-1)), .inl ((M (a + 3) (x3).toNat))]) (M1 := M) rfl ?_
  refine Ev.icT fd_e87 rfl g.2 (by decide) (decide_eq_true h) ?_
  exact k
theorem r87_8F {X : fx_Sc} {M M' : fx_M} {r : Option fx_V} {a : Nat} {x1 x2 x3 : Int} (ha : fd_isS a) (g : (0 ≤ x3 ∧ x3 < ((24 : Nat) : Int)) ∧ (-2147483648 ≤ (M (a + 3) (x3).toNat) ∧ (M (a + 3) (x3).toNat) < 2147483648)) (h : (M (a + 3) (x3).toNat) ≠ (-1)) (k : Ev X 87 14 [fx_f a, .inl (x1), .inl (x2), .inl (x3)] [] M r M') : Ev X 87 8 [fx_f a, .inl (x1), .inl (x2), .inl (x3)] [] M r M' := by
  refine Ev.run 1 fd_e87 (i' := 9) (ls' := [fx_f a, .inl (x1), .inl (x2), .inl (x3)]) (st' := [fx_f a]) (M1 := M) rfl ?_
  refine Ev.getr fd_e87 rfl ha.1 rfl ?_
  refine Ev.run 1 fd_e87 (i' := 11) (ls' := [fx_f a, .inl (x1), .inl (x2), .inl (x3)]) (st' := [.inl (x3), fx_f (a + 3)]) (M1 := M) rfl ?_
  refine Ev.iald fd_e87 rfl ha.2.2.2 (by decide) g.1 ?_
  refine Ev.run 1 fd_e87 (i' := 13) (ls' := [fx_f a, .inl (x1), .inl (x2), .inl (x3)]) (st' := [.inl ((-1)), .inl ((M (a + 3) (x3).toNat))]) (M1 := M) rfl ?_
  refine Ev.icF fd_e87 rfl g.2 (by decide) (decide_eq_false h) ?_
  exact k
theorem r87_14 {X : fx_Sc} {M M' : fx_M} {r : Option fx_V} {a : Nat} {x1 x2 x3 : Int} {M1 : fx_M} (ha : fd_isS a) (g : (0 ≤ x3 ∧ x3 < ((24 : Nat) : Int))) (hc : Ev X 80 0 [fx_f a, .inl (x1), .inl ((x3 + x2)), .inl (((M (a + 3) (x3).toNat) + x2))] [] M none M1) (k : Ev X 87 26 [fx_f a, .inl (x1), .inl (x2), .inl (x3)] [] M1 r M') : Ev X 87 14 [fx_f a, .inl (x1), .inl (x2), .inl (x3)] [] M r M' := by
  refine Ev.run 6 fd_e87 (i' := 20) (ls' := [fx_f a, .inl (x1), .inl (x2), .inl (x3)]) (st' := [fx_f a, .inl ((x3 + x2)), .inl (x1), fx_f a]) (M1 := M) rfl ?_
  refine Ev.getr fd_e87 rfl ha.1 rfl ?_
  refine Ev.run 1 fd_e87 (i' := 22) (ls' := [fx_f a, .inl (x1), .inl (x2), .inl (x3)]) (st' := [.inl (x3), fx_f (a + 3), .inl ((x3 + x2)), .inl (x1), fx_f a]) (M1 := M) rfl ?_
  refine Ev.iald fd_e87 rfl ha.2.2.2 (by decide) g ?_
  refine Ev.run 2 fd_e87 (i' := 25) (ls' := [fx_f a, .inl (x1), .inl (x2), .inl (x3)]) (st' := [.inl (((M (a + 3) (x3).toNat) + x2)), .inl ((x3 + x2)), .inl (x1), fx_f a]) (M1 := M) rfl ?_
  refine Ev.callV (vs := [fx_f a, .inl (x1), .inl ((x3 + x2)), .inl (((M (a + 3) (x3).toNat) + x2))]) (rest := []) (r1 := none) fd_e87 rfl rfl rfl (Nat.le_of_ble_eq_true rfl) (Nat.le_of_ble_eq_true rfl) (fd_rcvS ha) hc ?_
  exact k
theorem r87_26 {X : fx_Sc} {M M' : fx_M} {r : Option fx_V} {a : Nat} {x1 x2 x3 : Int} (k : Ev X 87 5 [fx_f a, .inl (x1), .inl (x2), .inl ((x3 + 1))] [] M r M') : Ev X 87 26 [fx_f a, .inl (x1), .inl (x2), .inl (x3)] [] M r M' := by
  refine Ev.run 2 fd_e87 (i' := 5) (ls' := [fx_f a, .inl (x1), .inl (x2), .inl ((x3 + 1))]) (st' := []) (M1 := M) rfl ?_
  exact k
theorem r87_28 {X : fx_Sc} {M : fx_M} {a : Nat} {x1 x2 x3 : Int} : Ev X 87 28 [fx_f a, .inl (x1), .inl (x2), .inl (x3)] [] M none M := by
  exact Ev.retv fd_e87 rfl rfl
-- 88: FoldedStrips$Strip.liftOff(I)V
theorem fd_e88 : fd_C 88 = fd_c88 := rfl
theorem r88_0 {X : fx_Sc} {M M' : fx_M} {r : Option fx_V} {a : Nat} {x1 : Int} (k : Ev X 88 2 [fx_f a, .inl (x1), .inl (0)] [] M r M') : Ev X 88 0 [fx_f a, .inl (x1), fx_u] [] M r M' := by
  refine Ev.run 2 fd_e88 (i' := 2) (ls' := [fx_f a, .inl (x1), .inl (0)]) (st' := []) (M1 := M) rfl ?_
  exact k
theorem r88_2T {X : fx_Sc} {M M' : fx_M} {r : Option fx_V} {a : Nat} {x1 x2 : Int} (g : (-2147483648 ≤ x2 ∧ x2 < 2147483648)) (h : 24 ≤ x2) (k : Ev X 88 16 [fx_f a, .inl (x1), .inl (x2)] [] M r M') : Ev X 88 2 [fx_f a, .inl (x1), .inl (x2)] [] M r M' := by
  refine Ev.run 2 fd_e88 (i' := 4) (ls' := [fx_f a, .inl (x1), .inl (x2)]) (st' := [.inl (24), .inl (x2)]) (M1 := M) rfl ?_
  refine Ev.icT fd_e88 rfl g (by decide) (decide_eq_true h) ?_
  exact k
theorem r88_2F {X : fx_Sc} {M M' : fx_M} {r : Option fx_V} {a : Nat} {x1 x2 : Int} (g : (-2147483648 ≤ x2 ∧ x2 < 2147483648)) (h : x2 < 24) (k : Ev X 88 5 [fx_f a, .inl (x1), .inl (x2)] [] M r M') : Ev X 88 2 [fx_f a, .inl (x1), .inl (x2)] [] M r M' := by
  refine Ev.run 2 fd_e88 (i' := 4) (ls' := [fx_f a, .inl (x1), .inl (x2)]) (st' := [.inl (24), .inl (x2)]) (M1 := M) rfl ?_
  refine Ev.icF fd_e88 rfl g (by decide) (decide_eq_false (Int.not_le.mpr h)) ?_
  exact k
theorem r88_5 {X : fx_Sc} {M M' : fx_M} {r : Option fx_V} {a : Nat} {x1 x2 z : Int} {M1 : fx_M} (ha : fd_isS a) (hc : Ev X 3 0 [.inl (x1), .inl (x2)] [] M (some (.inl z)) M1) (k : Ev X 88 12 [fx_f a, .inl (x1), .inl (x2)] [.inl (z), fx_f a, .inl (x2), fx_f (a + 3)] M1 r M') : Ev X 88 5 [fx_f a, .inl (x1), .inl (x2)] [] M r M' := by
  refine Ev.run 1 fd_e88 (i' := 6) (ls' := [fx_f a, .inl (x1), .inl (x2)]) (st' := [fx_f a]) (M1 := M) rfl ?_
  refine Ev.getr fd_e88 rfl ha.1 rfl ?_
  refine Ev.run 4 fd_e88 (i' := 11) (ls' := [fx_f a, .inl (x1), .inl (x2)]) (st' := [.inl (x2), .inl (x1), fx_f a, .inl (x2), fx_f (a + 3)]) (M1 := M) rfl ?_
  refine Ev.callS (vs := [.inl (x1), .inl (x2)]) (rest := [fx_f a, .inl (x2), fx_f (a + 3)]) (r1 := (some (.inl z))) fd_e88 rfl rfl rfl (Nat.le_of_ble_eq_true rfl) (Nat.le_of_ble_eq_true rfl) hc ?_
  exact k
theorem r88_12 {X : fx_Sc} {M M' : fx_M} {r : Option fx_V} {a : Nat} {x1 x2 s1 s3 z : Int} {M1 : fx_M} (ha : fd_isS a) (hc : Ev X 84 0 [fx_f a, .inl (s3)] [] M (some (.inl z)) M1) (k : Ev X 88 13 [fx_f a, .inl (x1), .inl (x2)] [.inl (z), .inl (s1), fx_f (a + 3)] M1 r M') : Ev X 88 12 [fx_f a, .inl (x1), .inl (x2)] [.inl (s3), fx_f a, .inl (s1), fx_f (a + 3)] M r M' := by
  refine Ev.callV (vs := [fx_f a, .inl (s3)]) (rest := [.inl (s1), fx_f (a + 3)]) (r1 := (some (.inl z))) fd_e88 rfl rfl rfl (Nat.le_of_ble_eq_true rfl) (Nat.le_of_ble_eq_true rfl) (fd_rcvS ha) hc ?_
  exact k
theorem r88_13 {X : fx_Sc} {M M' : fx_M} {r : Option fx_V} {a : Nat} {x1 x2 s1 s2 : Int} (ha : fd_isS a) (g : (0 ≤ s1 ∧ s1 < ((24 : Nat) : Int))) (k : Ev X 88 2 [fx_f a, .inl (x1), .inl ((x2 + 1))] [] (fx_set M (a + 3) (fx_up (M (a + 3)) (s1).toNat s2)) r M') : Ev X 88 13 [fx_f a, .inl (x1), .inl (x2)] [.inl (s2), .inl (s1), fx_f (a + 3)] M r M' := by
  refine Ev.iast fd_e88 rfl ha.2.2.2 (by decide) g ?_
  refine Ev.run 2 fd_e88 (i' := 2) (ls' := [fx_f a, .inl (x1), .inl ((x2 + 1))]) (st' := []) (M1 := (fx_set M (a + 3) (fx_up (M (a + 3)) (s1).toNat s2))) rfl ?_
  exact k
theorem r88_16 {X : fx_Sc} {M M' : fx_M} {r : Option fx_V} {a : Nat} {x1 x2 : Int} {M1 : fx_M} (ha : fd_isS a) (hc : Ev X 78 0 [fx_f a, .inl (x1), fx_u] [] M none M1) (k : Ev X 88 19 [fx_f a, .inl (x1), .inl (x2)] [] M1 r M') : Ev X 88 16 [fx_f a, .inl (x1), .inl (x2)] [] M r M' := by
  refine Ev.run 2 fd_e88 (i' := 18) (ls' := [fx_f a, .inl (x1), .inl (x2)]) (st' := [.inl (x1), fx_f a]) (M1 := M) rfl ?_
  refine Ev.callV (vs := [fx_f a, .inl (x1)]) (rest := []) (r1 := none) fd_e88 rfl rfl rfl (Nat.le_of_ble_eq_true rfl) (Nat.le_of_ble_eq_true rfl) (fd_rcvS ha) hc ?_
  exact k
theorem r88_19 {X : fx_Sc} {M : fx_M} {a : Nat} {x1 x2 : Int} : Ev X 88 19 [fx_f a, .inl (x1), .inl (x2)] [] M none M := by
  exact Ev.retv fd_e88 rfl rfl
-- 89: FoldedStrips$Strip.looseEnds()I
theorem fd_e89 : fd_C 89 = fd_c89 := rfl
theorem r89_0 {X : fx_Sc} {M M' : fx_M} {r : Option fx_V} {a : Nat} (k : Ev X 89 4 [fx_f a, .inl (0), .inl (0)] [] M r M') : Ev X 89 0 [fx_f a, fx_u, fx_u] [] M r M' := by
  refine Ev.run 4 fd_e89 (i' := 4) (ls' := [fx_f a, .inl (0), .inl (0)]) (st' := []) (M1 := M) rfl ?_
  exact k
theorem r89_4T {X : fx_Sc} {M M' : fx_M} {r : Option fx_V} {a : Nat} {x1 x2 : Int} (g : (-2147483648 ≤ x2 ∧ x2 < 2147483648)) (h : 5 ≤ x2) (k : Ev X 89 20 [fx_f a, .inl (x1), .inl (x2)] [] M r M') : Ev X 89 4 [fx_f a, .inl (x1), .inl (x2)] [] M r M' := by
  refine Ev.run 2 fd_e89 (i' := 6) (ls' := [fx_f a, .inl (x1), .inl (x2)]) (st' := [.inl (5), .inl (x2)]) (M1 := M) rfl ?_
  refine Ev.icT fd_e89 rfl g (by decide) (decide_eq_true h) ?_
  exact k
theorem r89_4F {X : fx_Sc} {M M' : fx_M} {r : Option fx_V} {a : Nat} {x1 x2 : Int} (g : (-2147483648 ≤ x2 ∧ x2 < 2147483648)) (h : x2 < 5) (k : Ev X 89 7 [fx_f a, .inl (x1), .inl (x2)] [] M r M') : Ev X 89 4 [fx_f a, .inl (x1), .inl (x2)] [] M r M' := by
  refine Ev.run 2 fd_e89 (i' := 6) (ls' := [fx_f a, .inl (x1), .inl (x2)]) (st' := [.inl (5), .inl (x2)]) (M1 := M) rfl ?_
  refine Ev.icF fd_e89 rfl g (by decide) (decide_eq_false (Int.not_le.mpr h)) ?_
  exact k
theorem r89_7 {X : fx_Sc} {M M' : fx_M} {r : Option fx_V} {a : Nat} {x1 x2 z : Int} {M1 : fx_M} (ha : fd_isS a) (hc : Ev X 90 0 [fx_f a, .inl (x2)] [] M (some (.inl z)) M1) (k : Ev X 89 11 [fx_f a, .inl (x1), .inl (x2)] [.inl (z), .inl (x1)] M1 r M') : Ev X 89 7 [fx_f a, .inl (x1), .inl (x2)] [] M r M' := by
  refine Ev.run 3 fd_e89 (i' := 10) (ls' := [fx_f a, .inl (x1), .inl (x2)]) (st' := [.inl (x2), fx_f a, .inl (x1)]) (M1 := M) rfl ?_
  refine Ev.callV (vs := [fx_f a, .inl (x2)]) (rest := [.inl (x1)]) (r1 := (some (.inl z))) fd_e89 rfl rfl rfl (Nat.le_of_ble_eq_true rfl) (Nat.le_of_ble_eq_true rfl) (fd_rcvS ha) hc ?_
  exact k
theorem r89_11 {X : fx_Sc} {M M' : fx_M} {r : Option fx_V} {a : Nat} {x1 x2 s0 s1 z : Int} {M1 : fx_M} (ha : fd_isS a) (hc : Ev X 91 0 [fx_f a, .inl (x2)] [] M (some (.inl z)) M1) (k : Ev X 89 14 [fx_f a, .inl (x1), .inl (x2)] [.inl (z), .inl (s1), .inl (s0)] M1 r M') : Ev X 89 11 [fx_f a, .inl (x1), .inl (x2)] [.inl (s1), .inl (s0)] M r M' := by
  refine Ev.run 2 fd_e89 (i' := 13) (ls' := [fx_f a, .inl (x1), .inl (x2)]) (st' := [.inl (x2), fx_f a, .inl (s1), .inl (s0)]) (M1 := M) rfl ?_
  refine Ev.callV (vs := [fx_f a, .inl (x2)]) (rest := [.inl (s1), .inl (s0)]) (r1 := (some (.inl z))) fd_e89 rfl rfl rfl (Nat.le_of_ble_eq_true rfl) (Nat.le_of_ble_eq_true rfl) (fd_rcvS ha) hc ?_
  exact k
theorem r89_14 {X : fx_Sc} {M M' : fx_M} {r : Option fx_V} {a : Nat} {x1 x2 s0 s1 s2 z : Int} {M1 : fx_M} (hc : Ev X 182 0 [.inl ((fx_xor s1 s2))] [] M (some (.inl z)) M1) (k : Ev X 89 16 [fx_f a, .inl (x1), .inl (x2)] [.inl (z), .inl (s0)] M1 r M') : Ev X 89 14 [fx_f a, .inl (x1), .inl (x2)] [.inl (s2), .inl (s1), .inl (s0)] M r M' := by
  refine Ev.run 1 fd_e89 (i' := 15) (ls' := [fx_f a, .inl (x1), .inl (x2)]) (st' := [.inl ((fx_xor s1 s2)), .inl (s0)]) (M1 := M) rfl ?_
  refine Ev.callS (vs := [.inl ((fx_xor s1 s2))]) (rest := [.inl (s0)]) (r1 := (some (.inl z))) fd_e89 rfl rfl rfl (Nat.le_of_ble_eq_true rfl) (Nat.le_of_ble_eq_true rfl) hc ?_
  exact k
theorem r89_16 {X : fx_Sc} {M M' : fx_M} {r : Option fx_V} {a : Nat} {x1 x2 s0 s1 : Int} (k : Ev X 89 4 [fx_f a, .inl ((s0 + s1)), .inl ((x2 + 1))] [] M r M') : Ev X 89 16 [fx_f a, .inl (x1), .inl (x2)] [.inl (s1), .inl (s0)] M r M' := by
  refine Ev.run 4 fd_e89 (i' := 4) (ls' := [fx_f a, .inl ((s0 + s1)), .inl ((x2 + 1))]) (st' := []) (M1 := M) rfl ?_
  exact k
theorem r89_20 {X : fx_Sc} {M : fx_M} {a : Nat} {x1 x2 : Int} : Ev X 89 20 [fx_f a, .inl (x1), .inl (x2)] [] M (some (.inl (x1))) M := by
  refine Ev.run 1 fd_e89 (i' := 21) (ls' := [fx_f a, .inl (x1), .inl (x2)]) (st' := [.inl (x1)]) (M1 := M) rfl ?_
  exact Ev.ret1 fd_e89 rfl rfl
-- 90: FoldedStrips$Strip.marksAt(I)I
theorem fd_e90 : fd_C 90 = fd_c90 := rfl
theorem r90_0 {X : fx_Sc} {M M' : fx_M} {r : Option fx_V} {a : Nat} {x1 z : Int} {M1 : fx_M} (hc : Ev X 7 0 [.inl (x1)] [] M (some (.inl z)) M1) (k : Ev X 90 3 [fx_f a, .inl (x1)] [.inl (z), fx_f a] M1 r M') : Ev X 90 0 [fx_f a, .inl (x1)] [] M r M' := by
  refine Ev.run 2 fd_e90 (i' := 2) (ls' := [fx_f a, .inl (x1)]) (st' := [.inl (x1), fx_f a]) (M1 := M) rfl ?_
  refine Ev.callS (vs := [.inl (x1)]) (rest := [fx_f a]) (r1 := (some (.inl z))) fd_e90 rfl rfl rfl (Nat.le_of_ble_eq_true rfl) (Nat.le_of_ble_eq_true rfl) hc ?_
  exact k
theorem r90_3 {X : fx_Sc} {M M' : fx_M} {r : Option fx_V} {a : Nat} {x1 s1 z : Int} {M1 : fx_M} (ha : fd_isS a) (hc : Ev X 82 0 [fx_f a, .inl (s1), fx_u, fx_u] [] M (some (.inl z)) M1) (k : Ev X 90 4 [fx_f a, .inl (x1)] [.inl (z)] M1 r M') : Ev X 90 3 [fx_f a, .inl (x1)] [.inl (s1), fx_f a] M r M' := by
  refine Ev.callV (vs := [fx_f a, .inl (s1)]) (rest := []) (r1 := (some (.inl z))) fd_e90 rfl rfl rfl (Nat.le_of_ble_eq_true rfl) (Nat.le_of_ble_eq_true rfl) (fd_rcvS ha) hc ?_
  exact k
theorem r90_4 {X : fx_Sc} {M : fx_M} {a : Nat} {x1 s0 : Int} : Ev X 90 4 [fx_f a, .inl (x1)] [.inl (s0)] M (some (.inl (s0))) M := by
  exact Ev.ret1 fd_e90 rfl rfl
-- 91: FoldedStrips$Strip.startsAt(I)I
theorem fd_e91 : fd_C 91 = fd_c91 := rfl
theorem r91_0 {X : fx_Sc} {M M' : fx_M} {r : Option fx_V} {a : Nat} {x1 z : Int} {M1 : fx_M} (hc : Ev X 5 0 [.inl ((x1 + 1))] [] M (some (.inl z)) M1) (k : Ev X 91 5 [fx_f a, .inl (x1)] [.inl (z), fx_f a] M1 r M') : Ev X 91 0 [fx_f a, .inl (x1)] [] M r M' := by
  refine Ev.run 4 fd_e91 (i' := 4) (ls' := [fx_f a, .inl (x1)]) (st' := [.inl ((x1 + 1)), fx_f a]) (M1 := M) rfl ?_
  refine Ev.callS (vs := [.inl ((x1 + 1))]) (rest := [fx_f a]) (r1 := (some (.inl z))) fd_e91 rfl rfl rfl (Nat.le_of_ble_eq_true rfl) (Nat.le_of_ble_eq_true rfl) hc ?_
  exact k
theorem r91_5 {X : fx_Sc} {M M' : fx_M} {r : Option fx_V} {a : Nat} {x1 s1 z : Int} {M1 : fx_M} (ha : fd_isS a) (hc : Ev X 82 0 [fx_f a, .inl (s1), fx_u, fx_u] [] M (some (.inl z)) M1) (k : Ev X 91 6 [fx_f a, .inl (x1)] [.inl (z)] M1 r M') : Ev X 91 5 [fx_f a, .inl (x1)] [.inl (s1), fx_f a] M r M' := by
  refine Ev.callV (vs := [fx_f a, .inl (s1)]) (rest := []) (r1 := (some (.inl z))) fd_e91 rfl rfl rfl (Nat.le_of_ble_eq_true rfl) (Nat.le_of_ble_eq_true rfl) (fd_rcvS ha) hc ?_
  exact k
theorem r91_6 {X : fx_Sc} {M : fx_M} {a : Nat} {x1 s0 : Int} : Ev X 91 6 [fx_f a, .inl (x1)] [.inl (s0)] M (some (.inl (s0))) M := by
  exact Ev.ret1 fd_e91 rfl rfl
-- 92: FoldedStrips$Strip.flip(II)V
theorem fd_e92 : fd_C 92 = fd_c92 := rfl
theorem r92_0 {X : fx_Sc} {M M' : fx_M} {r : Option fx_V} {a : Nat} {x1 x2 : Int} {M1 : fx_M} (ha : fd_isS a) (hc : Ev X 88 0 [fx_f a, .inl (x1), fx_u] [] M none M1) (k : Ev X 92 3 [fx_f a, .inl (x1), .inl (x2), fx_u] [] M1 r M') : Ev X 92 0 [fx_f a, .inl (x1), .inl (x2), fx_u] [] M r M' := by
  refine Ev.run 2 fd_e92 (i' := 2) (ls' := [fx_f a, .inl (x1), .inl (x2), fx_u]) (st' := [.inl (x1), fx_f a]) (M1 := M) rfl ?_
  refine Ev.callV (vs := [fx_f a, .inl (x1)]) (rest := []) (r1 := none) fd_e92 rfl rfl rfl (Nat.le_of_ble_eq_true rfl) (Nat.le_of_ble_eq_true rfl) (fd_rcvS ha) hc ?_
  exact k
theorem r92_3 {X : fx_Sc} {M M' : fx_M} {r : Option fx_V} {a : Nat} {x1 x2 : Int} (k : Ev X 92 5 [fx_f a, .inl (x1), .inl (x2), .inl (0)] [] M r M') : Ev X 92 3 [fx_f a, .inl (x1), .inl (x2), fx_u] [] M r M' := by
  refine Ev.run 2 fd_e92 (i' := 5) (ls' := [fx_f a, .inl (x1), .inl (x2), .inl (0)]) (st' := []) (M1 := M) rfl ?_
  exact k
theorem r92_5T {X : fx_Sc} {M M' : fx_M} {r : Option fx_V} {a : Nat} {x1 x2 x3 : Int} (g : (-2147483648 ≤ x3 ∧ x3 < 2147483648)) (h : 24 ≤ x3) (k : Ev X 92 28 [fx_f a, .inl (x1), .inl (x2), .inl (x3)] [] M r M') : Ev X 92 5 [fx_f a, .inl (x1), .inl (x2), .inl (x3)] [] M r M' := by
  refine Ev.run 2 fd_e92 (i' := 7) (ls' := [fx_f a, .inl (x1), .inl (x2), .inl (x3)]) (st' := [.inl (24), .inl (x3)]) (M1 := M) rfl ?_
  refine Ev.icT fd_e92 rfl g (by decide) (decide_eq_true h) ?_
  exact k
theorem r92_5F {X : fx_Sc} {M M' : fx_M} {r : Option fx_V} {a : Nat} {x1 x2 x3 : Int} (g : (-2147483648 ≤ x3 ∧ x3 < 2147483648)) (h : x3 < 24) (k : Ev X 92 8 [fx_f a, .inl (x1), .inl (x2), .inl (x3)] [] M r M') : Ev X 92 5 [fx_f a, .inl (x1), .inl (x2), .inl (x3)] [] M r M' := by
  refine Ev.run 2 fd_e92 (i' := 7) (ls' := [fx_f a, .inl (x1), .inl (x2), .inl (x3)]) (st' := [.inl (24), .inl (x3)]) (M1 := M) rfl ?_
  refine Ev.icF fd_e92 rfl g (by decide) (decide_eq_false (Int.not_le.mpr h)) ?_
  exact k
theorem r92_8T {X : fx_Sc} {M M' : fx_M} {r : Option fx_V} {a : Nat} {x1 x2 x3 : Int} (ha : fd_isS a) (g : (0 ≤ x3 ∧ x3 < ((24 : Nat) : Int)) ∧ (-2147483648 ≤ (M (a + 3) (x3).toNat) ∧ (M (a + 3) (x3).toNat) < 2147483648)) (h : (M (a + 3) (x3).toNat) = (-1)) (k : Ev X 92 26 [fx_f a, .inl (x1), .inl (x2), .inl (x3)] [] M r M') : Ev X 92 8 [fx_f a, .inl (x1), .inl (x2), .inl (x3)] [] M r M' := by
  refine Ev.run 1 fd_e92 (i' := 9) (ls' := [fx_f a, .inl (x1), .inl (x2), .inl (x3)]) (st' := [fx_f a]) (M1 := M) rfl ?_
  refine Ev.getr fd_e92 rfl ha.1 rfl ?_
  refine Ev.run 1 fd_e92 (i' := 11) (ls' := [fx_f a, .inl (x1), .inl (x2), .inl (x3)]) (st' := [.inl (x3), fx_f (a + 3)]) (M1 := M) rfl ?_
  refine Ev.iald fd_e92 rfl ha.2.2.2 (by decide) g.1 ?_
  refine Ev.run 1 fd_e92 (i' := 13) (ls' := [fx_f a, .inl (x1), .inl (x2), .inl (x3)]) (st' := [.inl ((-1)), .inl ((M (a + 3) (x3).toNat))]) (M1 := M) rfl ?_
  refine Ev.icT fd_e92 rfl g.2 (by decide) (decide_eq_true h) ?_
  exact k
theorem r92_8F {X : fx_Sc} {M M' : fx_M} {r : Option fx_V} {a : Nat} {x1 x2 x3 : Int} (ha : fd_isS a) (g : (0 ≤ x3 ∧ x3 < ((24 : Nat) : Int)) ∧ (-2147483648 ≤ (M (a + 3) (x3).toNat) ∧ (M (a + 3) (x3).toNat) < 2147483648)) (h : (M (a + 3) (x3).toNat) ≠ (-1)) (k : Ev X 92 14 [fx_f a, .inl (x1), .inl (x2), .inl (x3)] [] M r M') : Ev X 92 8 [fx_f a, .inl (x1), .inl (x2), .inl (x3)] [] M r M' := by
  refine Ev.run 1 fd_e92 (i' := 9) (ls' := [fx_f a, .inl (x1), .inl (x2), .inl (x3)]) (st' := [fx_f a]) (M1 := M) rfl ?_
  refine Ev.getr fd_e92 rfl ha.1 rfl ?_
  refine Ev.run 1 fd_e92 (i' := 11) (ls' := [fx_f a, .inl (x1), .inl (x2), .inl (x3)]) (st' := [.inl (x3), fx_f (a + 3)]) (M1 := M) rfl ?_
  refine Ev.iald fd_e92 rfl ha.2.2.2 (by decide) g.1 ?_
  refine Ev.run 1 fd_e92 (i' := 13) (ls' := [fx_f a, .inl (x1), .inl (x2), .inl (x3)]) (st' := [.inl ((-1)), .inl ((M (a + 3) (x3).toNat))]) (M1 := M) rfl ?_
  refine Ev.icF fd_e92 rfl g.2 (by decide) (decide_eq_false h) ?_
  exact k
theorem r92_14 {X : fx_Sc} {M M' : fx_M} {r : Option fx_V} {a : Nat} {x1 x2 x3 z : Int} {M1 : fx_M} (hc : Ev X 93 0 [.inl (x3), .inl (x2), fx_u, fx_u] [] M (some (.inl z)) M1) (k : Ev X 92 19 [fx_f a, .inl (x1), .inl (x2), .inl (x3)] [.inl (z), .inl (x1), fx_f a] M1 r M') : Ev X 92 14 [fx_f a, .inl (x1), .inl (x2), .inl (x3)] [] M r M' := by
  refine Ev.run 4 fd_e92 (i' := 18) (ls' := [fx_f a, .inl (x1), .inl (x2), .inl (x3)]) (st' := [.inl (x2), .inl (x3), .inl (x1), fx_f a]) (M1 := M) rfl ?_
  refine Ev.callS (vs := [.inl (x3), .inl (x2)]) (rest := [.inl (x1), fx_f a]) (r1 := (some (.inl z))) fd_e92 rfl rfl rfl (Nat.le_of_ble_eq_true rfl) (Nat.le_of_ble_eq_true rfl) hc ?_
  exact k
theorem r92_19 {X : fx_Sc} {M M' : fx_M} {r : Option fx_V} {a : Nat} {x1 x2 x3 s1 s2 z : Int} {M1 : fx_M} (ha : fd_isS a) (g : (0 ≤ x3 ∧ x3 < ((24 : Nat) : Int))) (hc : Ev X 93 0 [.inl ((M (a + 3) (x3).toNat)), .inl (x2), fx_u, fx_u] [] M (some (.inl z)) M1) (k : Ev X 92 25 [fx_f a, .inl (x1), .inl (x2), .inl (x3)] [.inl (z), .inl (s2), .inl (s1), fx_f a] M1 r M') : Ev X 92 19 [fx_f a, .inl (x1), .inl (x2), .inl (x3)] [.inl (s2), .inl (s1), fx_f a] M r M' := by
  refine Ev.run 1 fd_e92 (i' := 20) (ls' := [fx_f a, .inl (x1), .inl (x2), .inl (x3)]) (st' := [fx_f a, .inl (s2), .inl (s1), fx_f a]) (M1 := M) rfl ?_
  refine Ev.getr fd_e92 rfl ha.1 rfl ?_
  refine Ev.run 1 fd_e92 (i' := 22) (ls' := [fx_f a, .inl (x1), .inl (x2), .inl (x3)]) (st' := [.inl (x3), fx_f (a + 3), .inl (s2), .inl (s1), fx_f a]) (M1 := M) rfl ?_
  refine Ev.iald fd_e92 rfl ha.2.2.2 (by decide) g ?_
  refine Ev.run 1 fd_e92 (i' := 24) (ls' := [fx_f a, .inl (x1), .inl (x2), .inl (x3)]) (st' := [.inl (x2), .inl ((M (a + 3) (x3).toNat)), .inl (s2), .inl (s1), fx_f a]) (M1 := M) rfl ?_
  refine Ev.callS (vs := [.inl ((M (a + 3) (x3).toNat)), .inl (x2)]) (rest := [.inl (s2), .inl (s1), fx_f a]) (r1 := (some (.inl z))) fd_e92 rfl rfl rfl (Nat.le_of_ble_eq_true rfl) (Nat.le_of_ble_eq_true rfl) hc ?_
  exact k
theorem r92_25 {X : fx_Sc} {M M' : fx_M} {r : Option fx_V} {a : Nat} {x1 x2 x3 s1 s2 s3 : Int} {M1 : fx_M} (ha : fd_isS a) (hc : Ev X 80 0 [fx_f a, .inl (s1), .inl (s2), .inl (s3)] [] M none M1) (k : Ev X 92 26 [fx_f a, .inl (x1), .inl (x2), .inl (x3)] [] M1 r M') : Ev X 92 25 [fx_f a, .inl (x1), .inl (x2), .inl (x3)] [.inl (s3), .inl (s2), .inl (s1), fx_f a] M r M' := by
  refine Ev.callV (vs := [fx_f a, .inl (s1), .inl (s2), .inl (s3)]) (rest := []) (r1 := none) fd_e92 rfl rfl rfl (Nat.le_of_ble_eq_true rfl) (Nat.le_of_ble_eq_true rfl) (fd_rcvS ha) hc ?_
  exact k
theorem r92_26 {X : fx_Sc} {M M' : fx_M} {r : Option fx_V} {a : Nat} {x1 x2 x3 : Int} (k : Ev X 92 5 [fx_f a, .inl (x1), .inl (x2), .inl ((x3 + 1))] [] M r M') : Ev X 92 26 [fx_f a, .inl (x1), .inl (x2), .inl (x3)] [] M r M' := by
  refine Ev.run 2 fd_e92 (i' := 5) (ls' := [fx_f a, .inl (x1), .inl (x2), .inl ((x3 + 1))]) (st' := []) (M1 := M) rfl ?_
  exact k
theorem r92_28 {X : fx_Sc} {M : fx_M} {a : Nat} {x1 x2 x3 : Int} : Ev X 92 28 [fx_f a, .inl (x1), .inl (x2), .inl (x3)] [] M none M := by
  exact Ev.retv fd_e92 rfl rfl
-- 93: FoldedStrips$Strip.turnedEnd(II)I
theorem fd_e93 : fd_C 93 = fd_c93 := rfl
theorem r93_0T {X : fx_Sc} {M M' : fx_M} {r : Option fx_V} {x0 x1 : Int} (g : (-2147483648 ≤ x0 ∧ x0 < 2147483648)) (h : 12 ≤ x0) (k : Ev X 93 5 [.inl (x0), .inl (x1), fx_u, fx_u] [] M r M') : Ev X 93 0 [.inl (x0), .inl (x1), fx_u, fx_u] [] M r M' := by
  refine Ev.run 2 fd_e93 (i' := 2) (ls' := [.inl (x0), .inl (x1), fx_u, fx_u]) (st' := [.inl (12), .inl (x0)]) (M1 := M) rfl ?_
  refine Ev.icT fd_e93 rfl g (by decide) (decide_eq_true h) ?_
  exact k
theorem r93_0F {X : fx_Sc} {M M' : fx_M} {r : Option fx_V} {x0 x1 : Int} (g : (-2147483648 ≤ x0 ∧ x0 < 2147483648)) (h : x0 < 12) (k : Ev X 93 3 [.inl (x0), .inl (x1), fx_u, fx_u] [] M r M') : Ev X 93 0 [.inl (x0), .inl (x1), fx_u, fx_u] [] M r M' := by
  refine Ev.run 2 fd_e93 (i' := 2) (ls' := [.inl (x0), .inl (x1), fx_u, fx_u]) (st' := [.inl (12), .inl (x0)]) (M1 := M) rfl ?_
  refine Ev.icF fd_e93 rfl g (by decide) (decide_eq_false (Int.not_le.mpr h)) ?_
  exact k
theorem r93_3T {X : fx_Sc} {M M' : fx_M} {r : Option fx_V} {x0 x1 : Int} (g : (-2147483648 ≤ x1 ∧ x1 < 2147483648)) (h : x1 = 1) (k : Ev X 93 22 [.inl (x0), .inl (x1), .inl (1), .inl (x0)] [] M r M') : Ev X 93 3 [.inl (x0), .inl (x1), fx_u, fx_u] [] M r M' := by
  refine Ev.run 4 fd_e93 (i' := 8) (ls' := [.inl (x0), .inl (x1), .inl (1), fx_u]) (st' := [.inl (1)]) (M1 := M) rfl ?_
  refine Ev.ifF fd_e93 rfl (by decide) (by decide) ?_
  refine Ev.run 5 fd_e93 (i' := 17) (ls' := [.inl (x0), .inl (x1), .inl (1), .inl (x0)]) (st' := [.inl (1), .inl (x1)]) (M1 := M) rfl ?_
  refine Ev.icT fd_e93 rfl g (by decide) (decide_eq_true h) ?_
  exact k
theorem r93_3F {X : fx_Sc} {M M' : fx_M} {r : Option fx_V} {x0 x1 : Int} (g : (-2147483648 ≤ x1 ∧ x1 < 2147483648)) (h : x1 ≠ 1) (k : Ev X 93 18 [.inl (x0), .inl (x1), .inl (1), .inl (x0)] [] M r M') : Ev X 93 3 [.inl (x0), .inl (x1), fx_u, fx_u] [] M r M' := by
  refine Ev.run 4 fd_e93 (i' := 8) (ls' := [.inl (x0), .inl (x1), .inl (1), fx_u]) (st' := [.inl (1)]) (M1 := M) rfl ?_
  refine Ev.ifF fd_e93 rfl (by decide) (by decide) ?_
  refine Ev.run 5 fd_e93 (i' := 17) (ls' := [.inl (x0), .inl (x1), .inl (1), .inl (x0)]) (st' := [.inl (1), .inl (x1)]) (M1 := M) rfl ?_
  refine Ev.icF fd_e93 rfl g (by decide) (decide_eq_false h) ?_
  exact k
theorem r93_5T {X : fx_Sc} {M M' : fx_M} {r : Option fx_V} {x0 x1 : Int} (g : (-2147483648 ≤ x1 ∧ x1 < 2147483648)) (h : x1 = 1) (k : Ev X 93 22 [.inl (x0), .inl (x1), .inl (0), .inl ((x0 - 12))] [] M r M') : Ev X 93 5 [.inl (x0), .inl (x1), fx_u, fx_u] [] M r M' := by
  refine Ev.run 3 fd_e93 (i' := 8) (ls' := [.inl (x0), .inl (x1), .inl (0), fx_u]) (st' := [.inl (0)]) (M1 := M) rfl ?_
  refine Ev.ifT fd_e93 rfl (by decide) (by decide) ?_
  refine Ev.run 6 fd_e93 (i' := 17) (ls' := [.inl (x0), .inl (x1), .inl (0), .inl ((x0 - 12))]) (st' := [.inl (1), .inl (x1)]) (M1 := M) rfl ?_
  refine Ev.icT fd_e93 rfl g (by decide) (decide_eq_true h) ?_
  exact k
theorem r93_5F {X : fx_Sc} {M M' : fx_M} {r : Option fx_V} {x0 x1 : Int} (g : (-2147483648 ≤ x1 ∧ x1 < 2147483648)) (h : x1 ≠ 1) (k : Ev X 93 18 [.inl (x0), .inl (x1), .inl (0), .inl ((x0 - 12))] [] M r M') : Ev X 93 5 [.inl (x0), .inl (x1), fx_u, fx_u] [] M r M' := by
  refine Ev.run 3 fd_e93 (i' := 8) (ls' := [.inl (x0), .inl (x1), .inl (0), fx_u]) (st' := [.inl (0)]) (M1 := M) rfl ?_
  refine Ev.ifT fd_e93 rfl (by decide) (by decide) ?_
  refine Ev.run 6 fd_e93 (i' := 17) (ls' := [.inl (x0), .inl (x1), .inl (0), .inl ((x0 - 12))]) (st' := [.inl (1), .inl (x1)]) (M1 := M) rfl ?_
  refine Ev.icF fd_e93 rfl g (by decide) (decide_eq_false h) ?_
  exact k
theorem r93_9T {X : fx_Sc} {M M' : fx_M} {r : Option fx_V} {x0 x1 x2 : Int} (g : (-2147483648 ≤ x1 ∧ x1 < 2147483648)) (h : x1 = 1) (k : Ev X 93 22 [.inl (x0), .inl (x1), .inl (x2), .inl (x0)] [] M r M') : Ev X 93 9 [.inl (x0), .inl (x1), .inl (x2), fx_u] [] M r M' := by
  refine Ev.run 5 fd_e93 (i' := 17) (ls' := [.inl (x0), .inl (x1), .inl (x2), .inl (x0)]) (st' := [.inl (1), .inl (x1)]) (M1 := M) rfl ?_
  refine Ev.icT fd_e93 rfl g (by decide) (decide_eq_true h) ?_
  exact k
theorem r93_9F {X : fx_Sc} {M M' : fx_M} {r : Option fx_V} {x0 x1 x2 : Int} (g : (-2147483648 ≤ x1 ∧ x1 < 2147483648)) (h : x1 ≠ 1) (k : Ev X 93 18 [.inl (x0), .inl (x1), .inl (x2), .inl (x0)] [] M r M') : Ev X 93 9 [.inl (x0), .inl (x1), .inl (x2), fx_u] [] M r M' := by
  refine Ev.run 5 fd_e93 (i' := 17) (ls' := [.inl (x0), .inl (x1), .inl (x2), .inl (x0)]) (st' := [.inl (1), .inl (x1)]) (M1 := M) rfl ?_
  refine Ev.icF fd_e93 rfl g (by decide) (decide_eq_false h) ?_
  exact k
theorem r93_11T {X : fx_Sc} {M M' : fx_M} {r : Option fx_V} {x0 x1 x2 : Int} (g : (-2147483648 ≤ x1 ∧ x1 < 2147483648)) (h : x1 = 1) (k : Ev X 93 22 [.inl (x0), .inl (x1), .inl (x2), .inl ((x0 - 12))] [] M r M') : Ev X 93 11 [.inl (x0), .inl (x1), .inl (x2), fx_u] [] M r M' := by
  refine Ev.run 6 fd_e93 (i' := 17) (ls' := [.inl (x0), .inl (x1), .inl (x2), .inl ((x0 - 12))]) (st' := [.inl (1), .inl (x1)]) (M1 := M) rfl ?_
  refine Ev.icT fd_e93 rfl g (by decide) (decide_eq_true h) ?_
  exact k
theorem r93_11F {X : fx_Sc} {M M' : fx_M} {r : Option fx_V} {x0 x1 x2 : Int} (g : (-2147483648 ≤ x1 ∧ x1 < 2147483648)) (h : x1 ≠ 1) (k : Ev X 93 18 [.inl (x0), .inl (x1), .inl (x2), .inl ((x0 - 12))] [] M r M') : Ev X 93 11 [.inl (x0), .inl (x1), .inl (x2), fx_u] [] M r M' := by
  refine Ev.run 6 fd_e93 (i' := 17) (ls' := [.inl (x0), .inl (x1), .inl (x2), .inl ((x0 - 12))]) (st' := [.inl (1), .inl (x1)]) (M1 := M) rfl ?_
  refine Ev.icF fd_e93 rfl g (by decide) (decide_eq_false h) ?_
  exact k
theorem r93_18T {X : fx_Sc} {M M' : fx_M} {r : Option fx_V} {x0 x1 x2 x3 : Int} (g : (-2147483648 ≤ x1 ∧ x1 < 2147483648)) (h : x1 = 0) (k : Ev X 93 30 [.inl (x0), .inl (x1), .inl (x2), .inl ((11 - x3))] [] M r M') : Ev X 93 18 [.inl (x0), .inl (x1), .inl (x2), .inl (x3)] [] M r M' := by
  refine Ev.run 5 fd_e93 (i' := 23) (ls' := [.inl (x0), .inl (x1), .inl (x2), .inl ((11 - x3))]) (st' := [.inl (x1)]) (M1 := M) rfl ?_
  refine Ev.ifT fd_e93 rfl g (decide_eq_true h) ?_
  exact k
theorem r93_18F {X : fx_Sc} {M M' : fx_M} {r : Option fx_V} {x0 x1 x2 x3 : Int} (g : (-2147483648 ≤ x1 ∧ x1 < 2147483648)) (h : x1 ≠ 0) (k : Ev X 93 24 [.inl (x0), .inl (x1), .inl (x2), .inl ((11 - x3))] [] M r M') : Ev X 93 18 [.inl (x0), .inl (x1), .inl (x2), .inl (x3)] [] M r M' := by
  refine Ev.run 5 fd_e93 (i' := 23) (ls' := [.inl (x0), .inl (x1), .inl (x2), .inl ((11 - x3))]) (st' := [.inl (x1)]) (M1 := M) rfl ?_
  refine Ev.ifF fd_e93 rfl g (decide_eq_false h) ?_
  exact k
theorem r93_22T {X : fx_Sc} {M M' : fx_M} {r : Option fx_V} {x0 x1 x2 x3 : Int} (g : (-2147483648 ≤ x1 ∧ x1 < 2147483648)) (h : x1 = 0) (k : Ev X 93 30 [.inl (x0), .inl (x1), .inl (x2), .inl (x3)] [] M r M') : Ev X 93 22 [.inl (x0), .inl (x1), .inl (x2), .inl (x3)] [] M r M' := by
  refine Ev.run 1 fd_e93 (i' := 23) (ls' := [.inl (x0), .inl (x1), .inl (x2), .inl (x3)]) (st' := [.inl (x1)]) (M1 := M) rfl ?_
  refine Ev.ifT fd_e93 rfl g (decide_eq_true h) ?_
  exact k
theorem r93_22F {X : fx_Sc} {M M' : fx_M} {r : Option fx_V} {x0 x1 x2 x3 : Int} (g : (-2147483648 ≤ x1 ∧ x1 < 2147483648)) (h : x1 ≠ 0) (k : Ev X 93 24 [.inl (x0), .inl (x1), .inl (x2), .inl (x3)] [] M r M') : Ev X 93 22 [.inl (x0), .inl (x1), .inl (x2), .inl (x3)] [] M r M' := by
  refine Ev.run 1 fd_e93 (i' := 23) (ls' := [.inl (x0), .inl (x1), .inl (x2), .inl (x3)]) (st' := [.inl (x1)]) (M1 := M) rfl ?_
  refine Ev.ifF fd_e93 rfl g (decide_eq_false h) ?_
  exact k
theorem r93_24T {X : fx_Sc} {M M' : fx_M} {r : Option fx_V} {x0 x1 x2 x3 : Int} (g : (-2147483648 ≤ x2 ∧ x2 < 2147483648)) (h : x2 ≠ 0) (k : Ev X 93 28 [.inl (x0), .inl (x1), .inl (x2), .inl (x3)] [] M r M') : Ev X 93 24 [.inl (x0), .inl (x1), .inl (x2), .inl (x3)] [] M r M' := by
  refine Ev.run 1 fd_e93 (i' := 25) (ls' := [.inl (x0), .inl (x1), .inl (x2), .inl (x3)]) (st' := [.inl (x2)]) (M1 := M) rfl ?_
  refine Ev.ifT fd_e93 rfl g (decide_eq_true h) ?_
  exact k
theorem r93_24F {X : fx_Sc} {M M' : fx_M} {r : Option fx_V} {x0 x1 x2 x3 : Int} (g : (-2147483648 ≤ x2 ∧ x2 < 2147483648)) (h : x2 = 0) (k : Ev X 93 26 [.inl (x0), .inl (x1), .inl (x2), .inl (x3)] [] M r M') : Ev X 93 24 [.inl (x0), .inl (x1), .inl (x2), .inl (x3)] [] M r M' := by
  refine Ev.run 1 fd_e93 (i' := 25) (ls' := [.inl (x0), .inl (x1), .inl (x2), .inl (x3)]) (st' := [.inl (x2)]) (M1 := M) rfl ?_
  refine Ev.ifF fd_e93 rfl g (decide_eq_false (not_not_intro h)) ?_
  exact k
theorem r93_26 {X : fx_Sc} {M : fx_M} {x0 x1 x2 x3 : Int} : Ev X 93 26 [.inl (x0), .inl (x1), .inl (x2), .inl (x3)] [] M (some (.inl (x3))) M := by
  refine Ev.run 4 fd_e93 (i' := 31) (ls' := [.inl (x0), .inl (x1), .inl (1), .inl (x3)]) (st' := [.inl (1)]) (M1 := M) rfl ?_
  refine Ev.ifF fd_e93 rfl (by decide) (by decide) ?_
  refine Ev.run 2 fd_e93 (i' := 37) (ls' := [.inl (x0), .inl (x1), .inl (1), .inl (x3)]) (st' := [.inl (x3)]) (M1 := M) rfl ?_
  exact Ev.ret1 fd_e93 rfl rfl
theorem r93_28 {X : fx_Sc} {M : fx_M} {x0 x1 x2 x3 : Int} : Ev X 93 28 [.inl (x0), .inl (x1), .inl (x2), .inl (x3)] [] M (some (.inl ((12 + x3)))) M := by
  refine Ev.run 3 fd_e93 (i' := 31) (ls' := [.inl (x0), .inl (x1), .inl (0), .inl (x3)]) (st' := [.inl (0)]) (M1 := M) rfl ?_
  refine Ev.ifT fd_e93 rfl (by decide) (by decide) ?_
  refine Ev.run 3 fd_e93 (i' := 37) (ls' := [.inl (x0), .inl (x1), .inl (0), .inl (x3)]) (st' := [.inl ((12 + x3))]) (M1 := M) rfl ?_
  exact Ev.ret1 fd_e93 rfl rfl
theorem r93_30T {X : fx_Sc} {M M' : fx_M} {r : Option fx_V} {x0 x1 x2 x3 : Int} (g : (-2147483648 ≤ x2 ∧ x2 < 2147483648)) (h : x2 = 0) (k : Ev X 93 34 [.inl (x0), .inl (x1), .inl (x2), .inl (x3)] [] M r M') : Ev X 93 30 [.inl (x0), .inl (x1), .inl (x2), .inl (x3)] [] M r M' := by
  refine Ev.run 1 fd_e93 (i' := 31) (ls' := [.inl (x0), .inl (x1), .inl (x2), .inl (x3)]) (st' := [.inl (x2)]) (M1 := M) rfl ?_
  refine Ev.ifT fd_e93 rfl g (decide_eq_true h) ?_
  exact k
theorem r93_30F {X : fx_Sc} {M M' : fx_M} {r : Option fx_V} {x0 x1 x2 x3 : Int} (g : (-2147483648 ≤ x2 ∧ x2 < 2147483648)) (h : x2 ≠ 0) (k : Ev X 93 32 [.inl (x0), .inl (x1), .inl (x2), .inl (x3)] [] M r M') : Ev X 93 30 [.inl (x0), .inl (x1), .inl (x2), .inl (x3)] [] M r M' := by
  refine Ev.run 1 fd_e93 (i' := 31) (ls' := [.inl (x0), .inl (x1), .inl (x2), .inl (x3)]) (st' := [.inl (x2)]) (M1 := M) rfl ?_
  refine Ev.ifF fd_e93 rfl g (decide_eq_false h) ?_
  exact k
theorem r93_32 {X : fx_Sc} {M : fx_M} {x0 x1 x2 x3 : Int} : Ev X 93 32 [.inl (x0), .inl (x1), .inl (x2), .inl (x3)] [] M (some (.inl (x3))) M := by
  refine Ev.run 2 fd_e93 (i' := 37) (ls' := [.inl (x0), .inl (x1), .inl (x2), .inl (x3)]) (st' := [.inl (x3)]) (M1 := M) rfl ?_
  exact Ev.ret1 fd_e93 rfl rfl
theorem r93_34 {X : fx_Sc} {M : fx_M} {x0 x1 x2 x3 : Int} : Ev X 93 34 [.inl (x0), .inl (x1), .inl (x2), .inl (x3)] [] M (some (.inl ((12 + x3)))) M := by
  refine Ev.run 3 fd_e93 (i' := 37) (ls' := [.inl (x0), .inl (x1), .inl (x2), .inl (x3)]) (st' := [.inl ((12 + x3))]) (M1 := M) rfl ?_
  exact Ev.ret1 fd_e93 rfl rfl
-- 94: FoldedStrips$Strip.swap(II)V
theorem fd_e94 : fd_C 94 = fd_c94 := rfl
theorem r94_0 {X : fx_Sc} {M M' : fx_M} {r : Option fx_V} {a : Nat} {x1 x2 z : Int} {M1 : fx_M} (hc : Ev X 1 0 [.inl (x1)] [] M (some (.inl z)) M1) (k : Ev X 94 2 [fx_f a, .inl (x1), .inl (x2), fx_u, fx_u] [.inl (z)] M1 r M') : Ev X 94 0 [fx_f a, .inl (x1), .inl (x2), fx_u, fx_u] [] M r M' := by
  refine Ev.run 1 fd_e94 (i' := 1) (ls' := [fx_f a, .inl (x1), .inl (x2), fx_u, fx_u]) (st' := [.inl (x1)]) (M1 := M) rfl ?_
  refine Ev.callS (vs := [.inl (x1)]) (rest := []) (r1 := (some (.inl z))) fd_e94 rfl rfl rfl (Nat.le_of_ble_eq_true rfl) (Nat.le_of_ble_eq_true rfl) hc ?_
  exact k
theorem r94_2T {X : fx_Sc} {M M' : fx_M} {r : Option fx_V} {a : Nat} {x1 x2 s0 : Int} (g : (-2147483648 ≤ s0 ∧ s0 < 2147483648)) (h : s0 = 0) (k : Ev X 94 6 [fx_f a, .inl (x1), .inl (x2), fx_u, fx_u] [] M r M') : Ev X 94 2 [fx_f a, .inl (x1), .inl (x2), fx_u, fx_u] [.inl (s0)] M r M' := by
  refine Ev.ifT fd_e94 rfl g (decide_eq_true h) ?_
  exact k
theorem r94_2F {X : fx_Sc} {M M' : fx_M} {r : Option fx_V} {a : Nat} {x1 x2 s0 : Int} (g : (-2147483648 ≤ s0 ∧ s0 < 2147483648)) (h : s0 ≠ 0) (k : Ev X 94 3 [fx_f a, .inl (x1), .inl (x2), fx_u, fx_u] [] M r M') : Ev X 94 2 [fx_f a, .inl (x1), .inl (x2), fx_u, fx_u] [.inl (s0)] M r M' := by
  refine Ev.ifF fd_e94 rfl g (decide_eq_false h) ?_
  exact k
theorem r94_3 {X : fx_Sc} {M M' : fx_M} {r : Option fx_V} {a : Nat} {x1 x2 z : Int} {M1 : fx_M} (hc : Ev X 1 0 [.inl (x2)] [] M (some (.inl z)) M1) (k : Ev X 94 5 [fx_f a, .inl (x1), .inl (x2), fx_u, fx_u] [.inl (z)] M1 r M') : Ev X 94 3 [fx_f a, .inl (x1), .inl (x2), fx_u, fx_u] [] M r M' := by
  refine Ev.run 1 fd_e94 (i' := 4) (ls' := [fx_f a, .inl (x1), .inl (x2), fx_u, fx_u]) (st' := [.inl (x2)]) (M1 := M) rfl ?_
  refine Ev.callS (vs := [.inl (x2)]) (rest := []) (r1 := (some (.inl z))) fd_e94 rfl rfl rfl (Nat.le_of_ble_eq_true rfl) (Nat.le_of_ble_eq_true rfl) hc ?_
  exact k
theorem r94_5T {X : fx_Sc} {M M' : fx_M} {r : Option fx_V} {a : Nat} {x1 x2 s0 : Int} (g : (-2147483648 ≤ s0 ∧ s0 < 2147483648)) (h : s0 ≠ 0) (k : Ev X 94 7 [fx_f a, .inl (x1), .inl (x2), fx_u, fx_u] [] M r M') : Ev X 94 5 [fx_f a, .inl (x1), .inl (x2), fx_u, fx_u] [.inl (s0)] M r M' := by
  refine Ev.ifT fd_e94 rfl g (decide_eq_true h) ?_
  exact k
theorem r94_5F {X : fx_Sc} {M M' : fx_M} {r : Option fx_V} {a : Nat} {x1 x2 s0 : Int} (g : (-2147483648 ≤ s0 ∧ s0 < 2147483648)) (h : s0 = 0) (k : Ev X 94 6 [fx_f a, .inl (x1), .inl (x2), fx_u, fx_u] [] M r M') : Ev X 94 5 [fx_f a, .inl (x1), .inl (x2), fx_u, fx_u] [.inl (s0)] M r M' := by
  refine Ev.ifF fd_e94 rfl g (decide_eq_false (not_not_intro h)) ?_
  exact k
theorem r94_6 {X : fx_Sc} {M : fx_M} {a : Nat} {x1 x2 : Int} : Ev X 94 6 [fx_f a, .inl (x1), .inl (x2), fx_u, fx_u] [] M none M := by
  exact Ev.retv fd_e94 rfl rfl
theorem r94_7 {X : fx_Sc} {M M' : fx_M} {r : Option fx_V} {a : Nat} {x1 x2 : Int} (k : Ev X 94 9 [fx_f a, .inl (x1), .inl (x2), .inl (0), fx_u] [] M r M') : Ev X 94 7 [fx_f a, .inl (x1), .inl (x2), fx_u, fx_u] [] M r M' := by
  refine Ev.run 2 fd_e94 (i' := 9) (ls' := [fx_f a, .inl (x1), .inl (x2), .inl (0), fx_u]) (st' := []) (M1 := M) rfl ?_
  exact k
theorem r94_9T {X : fx_Sc} {M M' : fx_M} {r : Option fx_V} {a : Nat} {x1 x2 x3 : Int} {v4 : fx_V} (g : (-2147483648 ≤ x3 ∧ x3 < 2147483648)) (h : 24 ≤ x3) (k : Ev X 94 40 [fx_f a, .inl (x1), .inl (x2), .inl (x3), v4] [] M r M') : Ev X 94 9 [fx_f a, .inl (x1), .inl (x2), .inl (x3), v4] [] M r M' := by
  refine Ev.run 2 fd_e94 (i' := 11) (ls' := [fx_f a, .inl (x1), .inl (x2), .inl (x3), v4]) (st' := [.inl (24), .inl (x3)]) (M1 := M) rfl ?_
  refine Ev.icT fd_e94 rfl g (by decide) (decide_eq_true h) ?_
  exact k
theorem r94_9F {X : fx_Sc} {M M' : fx_M} {r : Option fx_V} {a : Nat} {x1 x2 x3 : Int} {v4 : fx_V} (g : (-2147483648 ≤ x3 ∧ x3 < 2147483648)) (h : x3 < 24) (k : Ev X 94 12 [fx_f a, .inl (x1), .inl (x2), .inl (x3), v4] [] M r M') : Ev X 94 9 [fx_f a, .inl (x1), .inl (x2), .inl (x3), v4] [] M r M' := by
  refine Ev.run 2 fd_e94 (i' := 11) (ls' := [fx_f a, .inl (x1), .inl (x2), .inl (x3), v4]) (st' := [.inl (24), .inl (x3)]) (M1 := M) rfl ?_
  refine Ev.icF fd_e94 rfl g (by decide) (decide_eq_false (Int.not_le.mpr h)) ?_
  exact k
theorem r94_12 {X : fx_Sc} {M M' : fx_M} {r : Option fx_V} {a : Nat} {x1 x2 x3 z : Int} {v4 : fx_V} {M1 : fx_M} (ha : fd_isS a) (hc : Ev X 3 0 [.inl (x1), .inl (x3)] [] M (some (.inl z)) M1) (k : Ev X 94 17 [fx_f a, .inl (x1), .inl (x2), .inl (x3), v4] [.inl (z), fx_f (a + 1)] M1 r M') : Ev X 94 12 [fx_f a, .inl (x1), .inl (x2), .inl (x3), v4] [] M r M' := by
  refine Ev.run 1 fd_e94 (i' := 13) (ls' := [fx_f a, .inl (x1), .inl (x2), .inl (x3), v4]) (st' := [fx_f a]) (M1 := M) rfl ?_
  refine Ev.getr fd_e94 rfl ha.1 rfl ?_
  refine Ev.run 2 fd_e94 (i' := 16) (ls' := [fx_f a, .inl (x1), .inl (x2), .inl (x3), v4]) (st' := [.inl (x3), .inl (x1), fx_f (a + 1)]) (M1 := M) rfl ?_
  refine Ev.callS (vs := [.inl (x1), .inl (x3)]) (rest := [fx_f (a + 1)]) (r1 := (some (.inl z))) fd_e94 rfl rfl rfl (Nat.le_of_ble_eq_true rfl) (Nat.le_of_ble_eq_true rfl) hc ?_
  exact k
theorem r94_17 {X : fx_Sc} {M M' : fx_M} {r : Option fx_V} {a : Nat} {x1 x2 x3 s1 z : Int} {v4 : fx_V} {M1 : fx_M} (ha : fd_isS a) (g : (0 ≤ s1 ∧ s1 < ((144 : Nat) : Int))) (hc : Ev X 3 0 [.inl (x1), .inl (x3)] [] M (some (.inl z)) M1) (k : Ev X 94 24 [fx_f a, .inl (x1), .inl (x2), .inl (x3), .inl ((M (a + 1) (s1).toNat))] [.inl (z), fx_f (a + 1)] M1 r M') : Ev X 94 17 [fx_f a, .inl (x1), .inl (x2), .inl (x3), v4] [.inl (s1), fx_f (a + 1)] M r M' := by
  refine Ev.iald fd_e94 rfl ha.2.1 (by decide) g ?_
  refine Ev.run 2 fd_e94 (i' := 20) (ls' := [fx_f a, .inl (x1), .inl (x2), .inl (x3), .inl ((M (a + 1) (s1).toNat))]) (st' := [fx_f a]) (M1 := M) rfl ?_
  refine Ev.getr fd_e94 rfl ha.1 rfl ?_
  refine Ev.run 2 fd_e94 (i' := 23) (ls' := [fx_f a, .inl (x1), .inl (x2), .inl (x3), .inl ((M (a + 1) (s1).toNat))]) (st' := [.inl (x3), .inl (x1), fx_f (a + 1)]) (M1 := M) rfl ?_
  refine Ev.callS (vs := [.inl (x1), .inl (x3)]) (rest := [fx_f (a + 1)]) (r1 := (some (.inl z))) fd_e94 rfl rfl rfl (Nat.le_of_ble_eq_true rfl) (Nat.le_of_ble_eq_true rfl) hc ?_
  exact k
theorem r94_24 {X : fx_Sc} {M M' : fx_M} {r : Option fx_V} {a : Nat} {x1 x2 x3 x4 s1 z : Int} {M1 : fx_M} (ha : fd_isS a) (hc : Ev X 3 0 [.inl (x2), .inl (x3)] [] M (some (.inl z)) M1) (k : Ev X 94 29 [fx_f a, .inl (x1), .inl (x2), .inl (x3), .inl (x4)] [.inl (z), fx_f (a + 1), .inl (s1), fx_f (a + 1)] M1 r M') : Ev X 94 24 [fx_f a, .inl (x1), .inl (x2), .inl (x3), .inl (x4)] [.inl (s1), fx_f (a + 1)] M r M' := by
  refine Ev.run 1 fd_e94 (i' := 25) (ls' := [fx_f a, .inl (x1), .inl (x2), .inl (x3), .inl (x4)]) (st' := [fx_f a, .inl (s1), fx_f (a + 1)]) (M1 := M) rfl ?_
  refine Ev.getr fd_e94 rfl ha.1 rfl ?_
  refine Ev.run 2 fd_e94 (i' := 28) (ls' := [fx_f a, .inl (x1), .inl (x2), .inl (x3), .inl (x4)]) (st' := [.inl (x3), .inl (x2), fx_f (a + 1), .inl (s1), fx_f (a + 1)]) (M1 := M) rfl ?_
  refine Ev.callS (vs := [.inl (x2), .inl (x3)]) (rest := [fx_f (a + 1), .inl (s1), fx_f (a + 1)]) (r1 := (some (.inl z))) fd_e94 rfl rfl rfl (Nat.le_of_ble_eq_true rfl) (Nat.le_of_ble_eq_true rfl) hc ?_
  exact k
theorem r94_29 {X : fx_Sc} {M M' : fx_M} {r : Option fx_V} {a : Nat} {x1 x2 x3 x4 s1 s3 z : Int} {M1 : fx_M} (ha : fd_isS a) (g : (0 ≤ s3 ∧ s3 < ((144 : Nat) : Int)) ∧ (0 ≤ s1 ∧ s1 < ((144 : Nat) : Int))) (hc : Ev X 3 0 [.inl (x2), .inl (x3)] [] (fx_set M (a + 1) (fx_up (M (a + 1)) (s1).toNat (M (a + 1) (s3).toNat))) (some (.inl z)) M1) (k : Ev X 94 36 [fx_f a, .inl (x1), .inl (x2), .inl (x3), .inl (x4)] [.inl (z), fx_f (a + 1)] M1 r M') : Ev X 94 29 [fx_f a, .inl (x1), .inl (x2), .inl (x3), .inl (x4)] [.inl (s3), fx_f (a + 1), .inl (s1), fx_f (a + 1)] M r M' := by
  refine Ev.iald fd_e94 rfl ha.2.1 (by decide) g.1 ?_
  refine Ev.iast fd_e94 rfl ha.2.1 (by decide) g.2 ?_
  refine Ev.run 1 fd_e94 (i' := 32) (ls' := [fx_f a, .inl (x1), .inl (x2), .inl (x3), .inl (x4)]) (st' := [fx_f a]) (M1 := (fx_set M (a + 1) (fx_up (M (a + 1)) (s1).toNat (M (a + 1) (s3).toNat)))) rfl ?_
  refine Ev.getr fd_e94 rfl ha.1 rfl ?_
  refine Ev.run 2 fd_e94 (i' := 35) (ls' := [fx_f a, .inl (x1), .inl (x2), .inl (x3), .inl (x4)]) (st' := [.inl (x3), .inl (x2), fx_f (a + 1)]) (M1 := (fx_set M (a + 1) (fx_up (M (a + 1)) (s1).toNat (M (a + 1) (s3).toNat)))) rfl ?_
  refine Ev.callS (vs := [.inl (x2), .inl (x3)]) (rest := [fx_f (a + 1)]) (r1 := (some (.inl z))) fd_e94 rfl rfl rfl (Nat.le_of_ble_eq_true rfl) (Nat.le_of_ble_eq_true rfl) hc ?_
  exact k
theorem r94_36 {X : fx_Sc} {M M' : fx_M} {r : Option fx_V} {a : Nat} {x1 x2 x3 x4 s1 : Int} (ha : fd_isS a) (g : (0 ≤ s1 ∧ s1 < ((144 : Nat) : Int))) (k : Ev X 94 9 [fx_f a, .inl (x1), .inl (x2), .inl ((x3 + 1)), .inl (x4)] [] (fx_set M (a + 1) (fx_up (M (a + 1)) (s1).toNat x4)) r M') : Ev X 94 36 [fx_f a, .inl (x1), .inl (x2), .inl (x3), .inl (x4)] [.inl (s1), fx_f (a + 1)] M r M' := by
  refine Ev.run 1 fd_e94 (i' := 37) (ls' := [fx_f a, .inl (x1), .inl (x2), .inl (x3), .inl (x4)]) (st' := [.inl (x4), .inl (s1), fx_f (a + 1)]) (M1 := M) rfl ?_
  refine Ev.iast fd_e94 rfl ha.2.1 (by decide) g ?_
  refine Ev.run 2 fd_e94 (i' := 9) (ls' := [fx_f a, .inl (x1), .inl (x2), .inl ((x3 + 1)), .inl (x4)]) (st' := []) (M1 := (fx_set M (a + 1) (fx_up (M (a + 1)) (s1).toNat x4))) rfl ?_
  exact k
theorem r94_40 {X : fx_Sc} {M : fx_M} {a : Nat} {x1 x2 x3 : Int} {v4 : fx_V} (ha : fd_isS a) (g : (0 ≤ x1 ∧ x1 < ((6 : Nat) : Int)) ∧ (0 ≤ x2 ∧ x2 < ((6 : Nat) : Int))) : Ev X 94 40 [fx_f a, .inl (x1), .inl (x2), .inl (x3), v4] [] M none (fx_set (fx_set M (a + 2) (fx_up (M (a + 2)) (x1).toNat (M (a + 2) (x2).toNat))) (a + 2) (fx_up ((fx_set M (a + 2) (fx_up (M (a + 2)) (x1).toNat (M (a + 2) (x2).toNat))) (a + 2)) (x2).toNat (M (a + 2) (x1).toNat))) := by
  refine Ev.run 1 fd_e94 (i' := 41) (ls' := [fx_f a, .inl (x1), .inl (x2), .inl (x3), v4]) (st' := [fx_f a]) (M1 := M) rfl ?_
  refine Ev.getr fd_e94 rfl ha.1 rfl ?_
  refine Ev.run 1 fd_e94 (i' := 43) (ls' := [fx_f a, .inl (x1), .inl (x2), .inl (x3), v4]) (st' := [.inl (x1), fx_f (a + 2)]) (M1 := M) rfl ?_
  refine Ev.iald fd_e94 rfl ha.2.2.1 (by decide) g.1 ?_
  refine Ev.run 2 fd_e94 (i' := 46) (ls' := [fx_f a, .inl (x1), .inl (x2), .inl ((M (a + 2) (x1).toNat)), v4]) (st' := [fx_f a]) (M1 := M) rfl ?_
  refine Ev.getr fd_e94 rfl ha.1 rfl ?_
  refine Ev.run 2 fd_e94 (i' := 49) (ls' := [fx_f a, .inl (x1), .inl (x2), .inl ((M (a + 2) (x1).toNat)), v4]) (st' := [fx_f a, .inl (x1), fx_f (a + 2)]) (M1 := M) rfl ?_
  refine Ev.getr fd_e94 rfl ha.1 rfl ?_
  refine Ev.run 1 fd_e94 (i' := 51) (ls' := [fx_f a, .inl (x1), .inl (x2), .inl ((M (a + 2) (x1).toNat)), v4]) (st' := [.inl (x2), fx_f (a + 2), .inl (x1), fx_f (a + 2)]) (M1 := M) rfl ?_
  refine Ev.iald fd_e94 rfl ha.2.2.1 (by decide) g.2 ?_
  refine Ev.iast fd_e94 rfl ha.2.2.1 (by decide) g.1 ?_
  refine Ev.run 1 fd_e94 (i' := 54) (ls' := [fx_f a, .inl (x1), .inl (x2), .inl ((M (a + 2) (x1).toNat)), v4]) (st' := [fx_f a]) (M1 := (fx_set M (a + 2) (fx_up (M (a + 2)) (x1).toNat (M (a + 2) (x2).toNat)))) rfl ?_
  refine Ev.getr fd_e94 rfl ha.1 rfl ?_
  refine Ev.run 2 fd_e94 (i' := 57) (ls' := [fx_f a, .inl (x1), .inl (x2), .inl ((M (a + 2) (x1).toNat)), v4]) (st' := [.inl ((M (a + 2) (x1).toNat)), .inl (x2), fx_f (a + 2)]) (M1 := (fx_set M (a + 2) (fx_up (M (a + 2)) (x1).toNat (M (a + 2) (x2).toNat)))) rfl ?_
  refine Ev.iast fd_e94 rfl ha.2.2.1 (by decide) g.2 ?_
  exact Ev.retv fd_e94 rfl rfl
-- 95: FoldedStrips$Strip.continueMarks(I)I
theorem fd_e95 : fd_C 95 = fd_c95 := rfl
theorem r95_0 {X : fx_Sc} {M M' : fx_M} {r : Option fx_V} {a : Nat} {x1 z : Int} {M1 : fx_M} (ha : fd_isS a) (hc : Ev X 96 0 [fx_f a, .inl ((x1 - 1))] [] M (some (.inl z)) M1) (k : Ev X 95 5 [fx_f a, .inl (x1), fx_u, fx_u] [.inl (z)] M1 r M') : Ev X 95 0 [fx_f a, .inl (x1), fx_u, fx_u] [] M r M' := by
  refine Ev.run 4 fd_e95 (i' := 4) (ls' := [fx_f a, .inl (x1), fx_u, fx_u]) (st' := [.inl ((x1 - 1)), fx_f a]) (M1 := M) rfl ?_
  refine Ev.callV (vs := [fx_f a, .inl ((x1 - 1))]) (rest := []) (r1 := (some (.inl z))) fd_e95 rfl rfl rfl (Nat.le_of_ble_eq_true rfl) (Nat.le_of_ble_eq_true rfl) (fd_rcvS ha) hc ?_
  exact k
theorem r95_5 {X : fx_Sc} {M M' : fx_M} {r : Option fx_V} {a : Nat} {x1 s0 z : Int} {M1 : fx_M} (hc : Ev X 7 0 [.inl (x1)] [] M (some (.inl z)) M1) (k : Ev X 95 8 [fx_f a, .inl (x1), fx_u, fx_u] [.inl (z), fx_f a, .inl (s0)] M1 r M') : Ev X 95 5 [fx_f a, .inl (x1), fx_u, fx_u] [.inl (s0)] M r M' := by
  refine Ev.run 2 fd_e95 (i' := 7) (ls' := [fx_f a, .inl (x1), fx_u, fx_u]) (st' := [.inl (x1), fx_f a, .inl (s0)]) (M1 := M) rfl ?_
  refine Ev.callS (vs := [.inl (x1)]) (rest := [fx_f a, .inl (s0)]) (r1 := (some (.inl z))) fd_e95 rfl rfl rfl (Nat.le_of_ble_eq_true rfl) (Nat.le_of_ble_eq_true rfl) hc ?_
  exact k
theorem r95_8 {X : fx_Sc} {M M' : fx_M} {r : Option fx_V} {a : Nat} {x1 s0 s2 z : Int} {M1 : fx_M} (ha : fd_isS a) (hc : Ev X 82 0 [fx_f a, .inl (s2), fx_u, fx_u] [] M (some (.inl z)) M1) (k : Ev X 95 9 [fx_f a, .inl (x1), fx_u, fx_u] [.inl (z), .inl (s0)] M1 r M') : Ev X 95 8 [fx_f a, .inl (x1), fx_u, fx_u] [.inl (s2), fx_f a, .inl (s0)] M r M' := by
  refine Ev.callV (vs := [fx_f a, .inl (s2)]) (rest := [.inl (s0)]) (r1 := (some (.inl z))) fd_e95 rfl rfl rfl (Nat.le_of_ble_eq_true rfl) (Nat.le_of_ble_eq_true rfl) (fd_rcvS ha) hc ?_
  exact k
theorem r95_9 {X : fx_Sc} {M M' : fx_M} {r : Option fx_V} {a : Nat} {x1 s0 s1 : Int} (k : Ev X 95 15 [fx_f a, .inl (x1), .inl ((fx_and s0 (fx_xor s1 (-1)))), .inl (0)] [] M r M') : Ev X 95 9 [fx_f a, .inl (x1), fx_u, fx_u] [.inl (s1), .inl (s0)] M r M' := by
  refine Ev.run 6 fd_e95 (i' := 15) (ls' := [fx_f a, .inl (x1), .inl ((fx_and s0 (fx_xor s1 (-1)))), .inl (0)]) (st' := []) (M1 := M) rfl ?_
  exact k
theorem r95_15T {X : fx_Sc} {M M' : fx_M} {r : Option fx_V} {a : Nat} {x1 x2 x3 : Int} (g : (-2147483648 ≤ x3 ∧ x3 < 2147483648)) (h : 12 ≤ x3) (k : Ev X 95 33 [fx_f a, .inl (x1), .inl (x2), .inl (x3)] [] M r M') : Ev X 95 15 [fx_f a, .inl (x1), .inl (x2), .inl (x3)] [] M r M' := by
  refine Ev.run 2 fd_e95 (i' := 17) (ls' := [fx_f a, .inl (x1), .inl (x2), .inl (x3)]) (st' := [.inl (12), .inl (x3)]) (M1 := M) rfl ?_
  refine Ev.icT fd_e95 rfl g (by decide) (decide_eq_true h) ?_
  exact k
theorem r95_15F {X : fx_Sc} {M M' : fx_M} {r : Option fx_V} {a : Nat} {x1 x2 x3 : Int} (g : (-2147483648 ≤ x3 ∧ x3 < 2147483648)) (h : x3 < 12) (k : Ev X 95 18 [fx_f a, .inl (x1), .inl (x2), .inl (x3)] [] M r M') : Ev X 95 15 [fx_f a, .inl (x1), .inl (x2), .inl (x3)] [] M r M' := by
  refine Ev.run 2 fd_e95 (i' := 17) (ls' := [fx_f a, .inl (x1), .inl (x2), .inl (x3)]) (st' := [.inl (12), .inl (x3)]) (M1 := M) rfl ?_
  refine Ev.icF fd_e95 rfl g (by decide) (decide_eq_false (Int.not_le.mpr h)) ?_
  exact k
theorem r95_18T {X : fx_Sc} {M M' : fx_M} {r : Option fx_V} {a : Nat} {x1 x2 x3 : Int} (g : (-2147483648 ≤ (fx_and x2 (fx_shl 1 x3)) ∧ (fx_and x2 (fx_shl 1 x3)) < 2147483648)) (h : (fx_and x2 (fx_shl 1 x3)) = 0) (k : Ev X 95 31 [fx_f a, .inl (x1), .inl (x2), .inl (x3)] [] M r M') : Ev X 95 18 [fx_f a, .inl (x1), .inl (x2), .inl (x3)] [] M r M' := by
  refine Ev.run 5 fd_e95 (i' := 23) (ls' := [fx_f a, .inl (x1), .inl (x2), .inl (x3)]) (st' := [.inl ((fx_and x2 (fx_shl 1 x3)))]) (M1 := M) rfl ?_
  refine Ev.ifT fd_e95 rfl g (decide_eq_true h) ?_
  exact k
theorem r95_18F {X : fx_Sc} {M M' : fx_M} {r : Option fx_V} {a : Nat} {x1 x2 x3 : Int} (g : (-2147483648 ≤ (fx_and x2 (fx_shl 1 x3)) ∧ (fx_and x2 (fx_shl 1 x3)) < 2147483648)) (h : (fx_and x2 (fx_shl 1 x3)) ≠ 0) (k : Ev X 95 24 [fx_f a, .inl (x1), .inl (x2), .inl (x3)] [] M r M') : Ev X 95 18 [fx_f a, .inl (x1), .inl (x2), .inl (x3)] [] M r M' := by
  refine Ev.run 5 fd_e95 (i' := 23) (ls' := [fx_f a, .inl (x1), .inl (x2), .inl (x3)]) (st' := [.inl ((fx_and x2 (fx_shl 1 x3)))]) (M1 := M) rfl ?_
  refine Ev.ifF fd_e95 rfl g (decide_eq_false h) ?_
  exact k
theorem r95_24 {X : fx_Sc} {M M' : fx_M} {r : Option fx_V} {a : Nat} {x1 x2 x3 : Int} {M1 : fx_M} (ha : fd_isS a) (hc : Ev X 80 0 [fx_f a, .inl (x1), .inl (x3), .inl ((12 + x3))] [] M none M1) (k : Ev X 95 31 [fx_f a, .inl (x1), .inl (x2), .inl (x3)] [] M1 r M') : Ev X 95 24 [fx_f a, .inl (x1), .inl (x2), .inl (x3)] [] M r M' := by
  refine Ev.run 6 fd_e95 (i' := 30) (ls' := [fx_f a, .inl (x1), .inl (x2), .inl (x3)]) (st' := [.inl ((12 + x3)), .inl (x3), .inl (x1), fx_f a]) (M1 := M) rfl ?_
  refine Ev.callV (vs := [fx_f a, .inl (x1), .inl (x3), .inl ((12 + x3))]) (rest := []) (r1 := none) fd_e95 rfl rfl rfl (Nat.le_of_ble_eq_true rfl) (Nat.le_of_ble_eq_true rfl) (fd_rcvS ha) hc ?_
  exact k
theorem r95_31 {X : fx_Sc} {M M' : fx_M} {r : Option fx_V} {a : Nat} {x1 x2 x3 : Int} (k : Ev X 95 15 [fx_f a, .inl (x1), .inl (x2), .inl ((x3 + 1))] [] M r M') : Ev X 95 31 [fx_f a, .inl (x1), .inl (x2), .inl (x3)] [] M r M' := by
  refine Ev.run 2 fd_e95 (i' := 15) (ls' := [fx_f a, .inl (x1), .inl (x2), .inl ((x3 + 1))]) (st' := []) (M1 := M) rfl ?_
  exact k
theorem r95_33 {X : fx_Sc} {M M' : fx_M} {r : Option fx_V} {a : Nat} {x1 x2 x3 z : Int} {M1 : fx_M} (hc : Ev X 182 0 [.inl (x2)] [] M (some (.inl z)) M1) (k : Ev X 95 35 [fx_f a, .inl (x1), .inl (x2), .inl (x3)] [.inl (z)] M1 r M') : Ev X 95 33 [fx_f a, .inl (x1), .inl (x2), .inl (x3)] [] M r M' := by
  refine Ev.run 1 fd_e95 (i' := 34) (ls' := [fx_f a, .inl (x1), .inl (x2), .inl (x3)]) (st' := [.inl (x2)]) (M1 := M) rfl ?_
  refine Ev.callS (vs := [.inl (x2)]) (rest := []) (r1 := (some (.inl z))) fd_e95 rfl rfl rfl (Nat.le_of_ble_eq_true rfl) (Nat.le_of_ble_eq_true rfl) hc ?_
  exact k
theorem r95_35 {X : fx_Sc} {M : fx_M} {a : Nat} {x1 x2 x3 s0 : Int} : Ev X 95 35 [fx_f a, .inl (x1), .inl (x2), .inl (x3)] [.inl (s0)] M (some (.inl (s0))) M := by
  exact Ev.ret1 fd_e95 rfl rfl
-- 96: FoldedStrips$Strip.missedMarksAt(I)I
theorem fd_e96 : fd_C 96 = fd_c96 := rfl
theorem r96_0 {X : fx_Sc} {M M' : fx_M} {r : Option fx_V} {a : Nat} {x1 z : Int} {M1 : fx_M} (ha : fd_isS a) (hc : Ev X 90 0 [fx_f a, .inl (x1)] [] M (some (.inl z)) M1) (k : Ev X 96 3 [fx_f a, .inl (x1)] [.inl (z)] M1 r M') : Ev X 96 0 [fx_f a, .inl (x1)] [] M r M' := by
  refine Ev.run 2 fd_e96 (i' := 2) (ls' := [fx_f a, .inl (x1)]) (st' := [.inl (x1), fx_f a]) (M1 := M) rfl ?_
  refine Ev.callV (vs := [fx_f a, .inl (x1)]) (rest := []) (r1 := (some (.inl z))) fd_e96 rfl rfl rfl (Nat.le_of_ble_eq_true rfl) (Nat.le_of_ble_eq_true rfl) (fd_rcvS ha) hc ?_
  exact k
theorem r96_3 {X : fx_Sc} {M M' : fx_M} {r : Option fx_V} {a : Nat} {x1 s0 z : Int} {M1 : fx_M} (ha : fd_isS a) (hc : Ev X 91 0 [fx_f a, .inl (x1)] [] M (some (.inl z)) M1) (k : Ev X 96 6 [fx_f a, .inl (x1)] [.inl (z), .inl (s0)] M1 r M') : Ev X 96 3 [fx_f a, .inl (x1)] [.inl (s0)] M r M' := by
  refine Ev.run 2 fd_e96 (i' := 5) (ls' := [fx_f a, .inl (x1)]) (st' := [.inl (x1), fx_f a, .inl (s0)]) (M1 := M) rfl ?_
  refine Ev.callV (vs := [fx_f a, .inl (x1)]) (rest := [.inl (s0)]) (r1 := (some (.inl z))) fd_e96 rfl rfl rfl (Nat.le_of_ble_eq_true rfl) (Nat.le_of_ble_eq_true rfl) (fd_rcvS ha) hc ?_
  exact k
theorem r96_6 {X : fx_Sc} {M : fx_M} {a : Nat} {x1 s0 s1 : Int} : Ev X 96 6 [fx_f a, .inl (x1)] [.inl (s1), .inl (s0)] M (some (.inl ((fx_and s0 (fx_xor s1 (-1)))))) M := by
  refine Ev.run 3 fd_e96 (i' := 9) (ls' := [fx_f a, .inl (x1)]) (st' := [.inl ((fx_and s0 (fx_xor s1 (-1))))]) (M1 := M) rfl ?_
  exact Ev.ret1 fd_e96 rfl rfl
-- 97: FoldedStrips$Strip.howEndIs(I)I
theorem fd_e97 : fd_C 97 = fd_c97 := rfl
theorem r97_0 {X : fx_Sc} {M M' : fx_M} {r : Option fx_V} {a : Nat} {x1 z : Int} {M1 : fx_M} (ha : fd_isS a) (hc : Ev X 83 0 [fx_f a, .inl (x1)] [] M (some (.inl z)) M1) (k : Ev X 97 3 [fx_f a, .inl (x1), fx_u] [.inl (z)] M1 r M') : Ev X 97 0 [fx_f a, .inl (x1), fx_u] [] M r M' := by
  refine Ev.run 2 fd_e97 (i' := 2) (ls' := [fx_f a, .inl (x1), fx_u]) (st' := [.inl (x1), fx_f a]) (M1 := M) rfl ?_
  refine Ev.callV (vs := [fx_f a, .inl (x1)]) (rest := []) (r1 := (some (.inl z))) fd_e97 rfl rfl rfl (Nat.le_of_ble_eq_true rfl) (Nat.le_of_ble_eq_true rfl) (fd_rcvS ha) hc ?_
  exact k
theorem r97_3T {X : fx_Sc} {M M' : fx_M} {r : Option fx_V} {a : Nat} {x1 s0 : Int} (g : (-2147483648 ≤ s0 ∧ s0 < 2147483648)) (h : s0 ≠ 0) (k : Ev X 97 6 [fx_f a, .inl (x1), fx_u] [] M r M') : Ev X 97 3 [fx_f a, .inl (x1), fx_u] [.inl (s0)] M r M' := by
  refine Ev.ifT fd_e97 rfl g (decide_eq_true h) ?_
  exact k
theorem r97_3F {X : fx_Sc} {M M' : fx_M} {r : Option fx_V} {a : Nat} {x1 s0 : Int} (g : (-2147483648 ≤ s0 ∧ s0 < 2147483648)) (h : s0 = 0) (k : Ev X 97 4 [fx_f a, .inl (x1), fx_u] [] M r M') : Ev X 97 3 [fx_f a, .inl (x1), fx_u] [.inl (s0)] M r M' := by
  refine Ev.ifF fd_e97 rfl g (decide_eq_false (not_not_intro h)) ?_
  exact k
theorem r97_4 {X : fx_Sc} {M : fx_M} {a : Nat} {x1 : Int} : Ev X 97 4 [fx_f a, .inl (x1), fx_u] [] M (some (.inl (0))) M := by
  refine Ev.run 1 fd_e97 (i' := 5) (ls' := [fx_f a, .inl (x1), fx_u]) (st' := [.inl (0)]) (M1 := M) rfl ?_
  exact Ev.ret1 fd_e97 rfl rfl
theorem r97_6 {X : fx_Sc} {M M' : fx_M} {r : Option fx_V} {a : Nat} {x1 z : Int} {M1 : fx_M} (hc : Ev X 17 0 [.inl (x1), fx_u, fx_u] [] M (some (.inl z)) M1) (k : Ev X 97 8 [fx_f a, .inl (x1), fx_u] [.inl (z)] M1 r M') : Ev X 97 6 [fx_f a, .inl (x1), fx_u] [] M r M' := by
  refine Ev.run 1 fd_e97 (i' := 7) (ls' := [fx_f a, .inl (x1), fx_u]) (st' := [.inl (x1)]) (M1 := M) rfl ?_
  refine Ev.callS (vs := [.inl (x1)]) (rest := []) (r1 := (some (.inl z))) fd_e97 rfl rfl rfl (Nat.le_of_ble_eq_true rfl) (Nat.le_of_ble_eq_true rfl) hc ?_
  exact k
theorem r97_8T {X : fx_Sc} {M M' : fx_M} {r : Option fx_V} {a : Nat} {x1 s0 : Int} (g : (-2147483648 ≤ s0 ∧ s0 < 2147483648)) (h : s0 ≠ (-1)) (k : Ev X 97 14 [fx_f a, .inl (x1), .inl (s0)] [] M r M') : Ev X 97 8 [fx_f a, .inl (x1), fx_u] [.inl (s0)] M r M' := by
  refine Ev.run 3 fd_e97 (i' := 11) (ls' := [fx_f a, .inl (x1), .inl (s0)]) (st' := [.inl ((-1)), .inl (s0)]) (M1 := M) rfl ?_
  refine Ev.icT fd_e97 rfl g (by decide) (decide_eq_true h) ?_
  exact k
theorem r97_8F {X : fx_Sc} {M M' : fx_M} {r : Option fx_V} {a : Nat} {x1 s0 : Int} (g : (-2147483648 ≤ s0 ∧ s0 < 2147483648)) (h : s0 = (-1)) (k : Ev X 97 12 [fx_f a, .inl (x1), .inl (s0)] [] M r M') : Ev X 97 8 [fx_f a, .inl (x1), fx_u] [.inl (s0)] M r M' := by
  refine Ev.run 3 fd_e97 (i' := 11) (ls' := [fx_f a, .inl (x1), .inl (s0)]) (st' := [.inl ((-1)), .inl (s0)]) (M1 := M) rfl ?_
  refine Ev.icF fd_e97 rfl g (by decide) (decide_eq_false (not_not_intro h)) ?_
  exact k
theorem r97_12 {X : fx_Sc} {M : fx_M} {a : Nat} {x1 x2 : Int} : Ev X 97 12 [fx_f a, .inl (x1), .inl (x2)] [] M (some (.inl (3))) M := by
  refine Ev.run 1 fd_e97 (i' := 13) (ls' := [fx_f a, .inl (x1), .inl (x2)]) (st' := [.inl (3)]) (M1 := M) rfl ?_
  exact Ev.ret1 fd_e97 rfl rfl
theorem r97_14 {X : fx_Sc} {M M' : fx_M} {r : Option fx_V} {a : Nat} {x1 x2 z : Int} {M1 : fx_M} (ha : fd_isS a) (hc : Ev X 83 0 [fx_f a, .inl (x2)] [] M (some (.inl z)) M1) (k : Ev X 97 17 [fx_f a, .inl (x1), .inl (x2)] [.inl (z)] M1 r M') : Ev X 97 14 [fx_f a, .inl (x1), .inl (x2)] [] M r M' := by
  refine Ev.run 2 fd_e97 (i' := 16) (ls' := [fx_f a, .inl (x1), .inl (x2)]) (st' := [.inl (x2), fx_f a]) (M1 := M) rfl ?_
  refine Ev.callV (vs := [fx_f a, .inl (x2)]) (rest := []) (r1 := (some (.inl z))) fd_e97 rfl rfl rfl (Nat.le_of_ble_eq_true rfl) (Nat.le_of_ble_eq_true rfl) (fd_rcvS ha) hc ?_
  exact k
theorem r97_17T {X : fx_Sc} {M M' : fx_M} {r : Option fx_V} {a : Nat} {x1 x2 s0 : Int} (g : (-2147483648 ≤ s0 ∧ s0 < 2147483648)) (h : s0 = 0) (k : Ev X 97 20 [fx_f a, .inl (x1), .inl (x2)] [] M r M') : Ev X 97 17 [fx_f a, .inl (x1), .inl (x2)] [.inl (s0)] M r M' := by
  refine Ev.ifT fd_e97 rfl g (decide_eq_true h) ?_
  exact k
theorem r97_17F {X : fx_Sc} {M M' : fx_M} {r : Option fx_V} {a : Nat} {x1 x2 s0 : Int} (g : (-2147483648 ≤ s0 ∧ s0 < 2147483648)) (h : s0 ≠ 0) (k : Ev X 97 18 [fx_f a, .inl (x1), .inl (x2)] [] M r M') : Ev X 97 17 [fx_f a, .inl (x1), .inl (x2)] [.inl (s0)] M r M' := by
  refine Ev.ifF fd_e97 rfl g (decide_eq_false h) ?_
  exact k
theorem r97_18 {X : fx_Sc} {M : fx_M} {a : Nat} {x1 x2 : Int} : Ev X 97 18 [fx_f a, .inl (x1), .inl (x2)] [] M (some (.inl (1))) M := by
  refine Ev.run 2 fd_e97 (i' := 21) (ls' := [fx_f a, .inl (x1), .inl (x2)]) (st' := [.inl (1)]) (M1 := M) rfl ?_
  exact Ev.ret1 fd_e97 rfl rfl
theorem r97_20 {X : fx_Sc} {M : fx_M} {a : Nat} {x1 x2 : Int} : Ev X 97 20 [fx_f a, .inl (x1), .inl (x2)] [] M (some (.inl (2))) M := by
  refine Ev.run 1 fd_e97 (i' := 21) (ls' := [fx_f a, .inl (x1), .inl (x2)]) (st' := [.inl (2)]) (M1 := M) rfl ?_
  exact Ev.ret1 fd_e97 rfl rfl
-- 98: FoldedStrips$Strip.otherPlace(I)I
theorem fd_e98 : fd_C 98 = fd_c98 := rfl
theorem r98_0 {X : fx_Sc} {M M' : fx_M} {r : Option fx_V} {a : Nat} {x1 z : Int} {M1 : fx_M} (ha : fd_isS a) (hc : Ev X 84 0 [fx_f a, .inl (x1)] [] M (some (.inl z)) M1) (k : Ev X 98 3 [fx_f a, .inl (x1), fx_u] [.inl (z)] M1 r M') : Ev X 98 0 [fx_f a, .inl (x1), fx_u] [] M r M' := by
  refine Ev.run 2 fd_e98 (i' := 2) (ls' := [fx_f a, .inl (x1), fx_u]) (st' := [.inl (x1), fx_f a]) (M1 := M) rfl ?_
  refine Ev.callV (vs := [fx_f a, .inl (x1)]) (rest := []) (r1 := (some (.inl z))) fd_e98 rfl rfl rfl (Nat.le_of_ble_eq_true rfl) (Nat.le_of_ble_eq_true rfl) (fd_rcvS ha) hc ?_
  exact k
theorem r98_3T {X : fx_Sc} {M M' : fx_M} {r : Option fx_V} {a : Nat} {x1 s0 : Int} (g : (-2147483648 ≤ s0 ∧ s0 < 2147483648)) (h : s0 ≠ (-1)) (k : Ev X 98 9 [fx_f a, .inl (x1), .inl (s0)] [] M r M') : Ev X 98 3 [fx_f a, .inl (x1), fx_u] [.inl (s0)] M r M' := by
  refine Ev.run 3 fd_e98 (i' := 6) (ls' := [fx_f a, .inl (x1), .inl (s0)]) (st' := [.inl ((-1)), .inl (s0)]) (M1 := M) rfl ?_
  refine Ev.icT fd_e98 rfl g (by decide) (decide_eq_true h) ?_
  exact k
theorem r98_3F {X : fx_Sc} {M M' : fx_M} {r : Option fx_V} {a : Nat} {x1 s0 : Int} (g : (-2147483648 ≤ s0 ∧ s0 < 2147483648)) (h : s0 = (-1)) (k : Ev X 98 7 [fx_f a, .inl (x1), .inl (s0)] [] M r M') : Ev X 98 3 [fx_f a, .inl (x1), fx_u] [.inl (s0)] M r M' := by
  refine Ev.run 3 fd_e98 (i' := 6) (ls' := [fx_f a, .inl (x1), .inl (s0)]) (st' := [.inl ((-1)), .inl (s0)]) (M1 := M) rfl ?_
  refine Ev.icF fd_e98 rfl g (by decide) (decide_eq_false (not_not_intro h)) ?_
  exact k
theorem r98_7 {X : fx_Sc} {M : fx_M} {a : Nat} {x1 x2 : Int} : Ev X 98 7 [fx_f a, .inl (x1), .inl (x2)] [] M (some (.inl ((-1)))) M := by
  refine Ev.run 2 fd_e98 (i' := 13) (ls' := [fx_f a, .inl (x1), .inl (x2)]) (st' := [.inl ((-1))]) (M1 := M) rfl ?_
  exact Ev.ret1 fd_e98 rfl rfl
theorem r98_9 {X : fx_Sc} {M M' : fx_M} {r : Option fx_V} {a : Nat} {x1 x2 z : Int} {M1 : fx_M} (hc : Ev X 18 0 [.inl (x1)] [] M (some (.inl z)) M1) (k : Ev X 98 11 [fx_f a, .inl (x1), .inl (x2)] [.inl (z)] M1 r M') : Ev X 98 9 [fx_f a, .inl (x1), .inl (x2)] [] M r M' := by
  refine Ev.run 1 fd_e98 (i' := 10) (ls' := [fx_f a, .inl (x1), .inl (x2)]) (st' := [.inl (x1)]) (M1 := M) rfl ?_
  refine Ev.callS (vs := [.inl (x1)]) (rest := []) (r1 := (some (.inl z))) fd_e98 rfl rfl rfl (Nat.le_of_ble_eq_true rfl) (Nat.le_of_ble_eq_true rfl) hc ?_
  exact k
theorem r98_11 {X : fx_Sc} {M M' : fx_M} {r : Option fx_V} {a : Nat} {x1 x2 s0 z : Int} {M1 : fx_M} (hc : Ev X 3 0 [.inl (s0), .inl (x2)] [] M (some (.inl z)) M1) (k : Ev X 98 13 [fx_f a, .inl (x1), .inl (x2)] [.inl (z)] M1 r M') : Ev X 98 11 [fx_f a, .inl (x1), .inl (x2)] [.inl (s0)] M r M' := by
  refine Ev.run 1 fd_e98 (i' := 12) (ls' := [fx_f a, .inl (x1), .inl (x2)]) (st' := [.inl (x2), .inl (s0)]) (M1 := M) rfl ?_
  refine Ev.callS (vs := [.inl (s0), .inl (x2)]) (rest := []) (r1 := (some (.inl z))) fd_e98 rfl rfl rfl (Nat.le_of_ble_eq_true rfl) (Nat.le_of_ble_eq_true rfl) hc ?_
  exact k
theorem r98_13 {X : fx_Sc} {M : fx_M} {a : Nat} {x1 x2 s0 : Int} : Ev X 98 13 [fx_f a, .inl (x1), .inl (x2)] [.inl (s0)] M (some (.inl (s0))) M := by
  exact Ev.ret1 fd_e98 rfl rfl
-- 99: FoldedStrips$Strip.handOf(I)I
theorem fd_e99 : fd_C 99 = fd_c99 := rfl
theorem r99_0 {X : fx_Sc} {M M' : fx_M} {r : Option fx_V} {a : Nat} {x1 z : Int} {M1 : fx_M} (hc : Ev X 1 0 [.inl (x1)] [] M (some (.inl z)) M1) (k : Ev X 99 2 [fx_f a, .inl (x1)] [.inl (z)] M1 r M') : Ev X 99 0 [fx_f a, .inl (x1)] [] M r M' := by
  refine Ev.run 1 fd_e99 (i' := 1) (ls' := [fx_f a, .inl (x1)]) (st' := [.inl (x1)]) (M1 := M) rfl ?_
  refine Ev.callS (vs := [.inl (x1)]) (rest := []) (r1 := (some (.inl z))) fd_e99 rfl rfl rfl (Nat.le_of_ble_eq_true rfl) (Nat.le_of_ble_eq_true rfl) hc ?_
  exact k
theorem r99_2T {X : fx_Sc} {M M' : fx_M} {r : Option fx_V} {a : Nat} {x1 s0 : Int} (g : (-2147483648 ≤ s0 ∧ s0 < 2147483648)) (h : s0 = 0) (k : Ev X 99 8 [fx_f a, .inl (x1)] [] M r M') : Ev X 99 2 [fx_f a, .inl (x1)] [.inl (s0)] M r M' := by
  refine Ev.ifT fd_e99 rfl g (decide_eq_true h) ?_
  exact k
theorem r99_2F {X : fx_Sc} {M M' : fx_M} {r : Option fx_V} {a : Nat} {x1 s0 : Int} (g : (-2147483648 ≤ s0 ∧ s0 < 2147483648)) (h : s0 ≠ 0) (k : Ev X 99 3 [fx_f a, .inl (x1)] [] M r M') : Ev X 99 2 [fx_f a, .inl (x1)] [.inl (s0)] M r M' := by
  refine Ev.ifF fd_e99 rfl g (decide_eq_false h) ?_
  exact k
theorem r99_3 {X : fx_Sc} {M : fx_M} {a : Nat} {x1 : Int} (ha : fd_isS a) (g : (0 ≤ x1 ∧ x1 < ((6 : Nat) : Int))) : Ev X 99 3 [fx_f a, .inl (x1)] [] M (some (.inl ((M (a + 2) (x1).toNat)))) M := by
  refine Ev.run 1 fd_e99 (i' := 4) (ls' := [fx_f a, .inl (x1)]) (st' := [fx_f a]) (M1 := M) rfl ?_
  refine Ev.getr fd_e99 rfl ha.1 rfl ?_
  refine Ev.run 1 fd_e99 (i' := 6) (ls' := [fx_f a, .inl (x1)]) (st' := [.inl (x1), fx_f (a + 2)]) (M1 := M) rfl ?_
  refine Ev.iald fd_e99 rfl ha.2.2.1 (by decide) g ?_
  refine Ev.run 1 fd_e99 (i' := 9) (ls' := [fx_f a, .inl (x1)]) (st' := [.inl ((M (a + 2) (x1).toNat))]) (M1 := M) rfl ?_
  exact Ev.ret1 fd_e99 rfl rfl
theorem r99_8 {X : fx_Sc} {M : fx_M} {a : Nat} {x1 : Int} : Ev X 99 8 [fx_f a, .inl (x1)] [] M (some (.inl ((-1)))) M := by
  refine Ev.run 1 fd_e99 (i' := 9) (ls' := [fx_f a, .inl (x1)]) (st' := [.inl ((-1))]) (M1 := M) rfl ?_
  exact Ev.ret1 fd_e99 rfl rfl
-- 100: FoldedStrips$Strip.crossingsOf(I)I
theorem fd_e100 : fd_C 100 = fd_c100 := rfl
theorem r100_0 {X : fx_Sc} {M M' : fx_M} {r : Option fx_V} {a : Nat} {x1 z : Int} {M1 : fx_M} (hc : Ev X 18 0 [.inl (x1)] [] M (some (.inl z)) M1) (k : Ev X 100 2 [fx_f a, .inl (x1), fx_u, fx_u, fx_u, fx_u, fx_u, fx_u, fx_u] [.inl (z)] M1 r M') : Ev X 100 0 [fx_f a, .inl (x1), fx_u, fx_u, fx_u, fx_u, fx_u, fx_u, fx_u] [] M r M' := by
  refine Ev.run 1 fd_e100 (i' := 1) (ls' := [fx_f a, .inl (x1), fx_u, fx_u, fx_u, fx_u, fx_u, fx_u, fx_u]) (st' := [.inl (x1)]) (M1 := M) rfl ?_
  refine Ev.callS (vs := [.inl (x1)]) (rest := []) (r1 := (some (.inl z))) fd_e100 rfl rfl rfl (Nat.le_of_ble_eq_true rfl) (Nat.le_of_ble_eq_true rfl) hc ?_
  exact k
theorem r100_2 {X : fx_Sc} {M M' : fx_M} {r : Option fx_V} {a : Nat} {x1 s0 z : Int} {M1 : fx_M} (ha : fd_isS a) (hc : Ev X 84 0 [fx_f a, .inl (x1)] [] M (some (.inl z)) M1) (k : Ev X 100 10 [fx_f a, .inl (x1), .inl (s0), .inl ((fx_rem x1 24)), fx_u, fx_u, fx_u, fx_u, fx_u] [.inl (z)] M1 r M') : Ev X 100 2 [fx_f a, .inl (x1), fx_u, fx_u, fx_u, fx_u, fx_u, fx_u, fx_u] [.inl (s0)] M r M' := by
  refine Ev.run 3 fd_e100 (i' := 5) (ls' := [fx_f a, .inl (x1), .inl (s0), fx_u, fx_u, fx_u, fx_u, fx_u, fx_u]) (st' := [.inl (24), .inl (x1)]) (M1 := M) rfl ?_
  refine Ev.rem fd_e100 rfl (by decide) ?_
  refine Ev.run 3 fd_e100 (i' := 9) (ls' := [fx_f a, .inl (x1), .inl (s0), .inl ((fx_rem x1 24)), fx_u, fx_u, fx_u, fx_u, fx_u]) (st' := [.inl (x1), fx_f a]) (M1 := M) rfl ?_
  refine Ev.callV (vs := [fx_f a, .inl (x1)]) (rest := []) (r1 := (some (.inl z))) fd_e100 rfl rfl rfl (Nat.le_of_ble_eq_true rfl) (Nat.le_of_ble_eq_true rfl) (fd_rcvS ha) hc ?_
  exact k
theorem r100_10 {X : fx_Sc} {M M' : fx_M} {r : Option fx_V} {a : Nat} {x1 x2 x3 s0 : Int} (k : Ev X 100 15 [fx_f a, .inl (x1), .inl (x2), .inl (x3), .inl (s0), .inl (0), .inl (0), fx_u, fx_u] [] M r M') : Ev X 100 10 [fx_f a, .inl (x1), .inl (x2), .inl (x3), fx_u, fx_u, fx_u, fx_u, fx_u] [.inl (s0)] M r M' := by
  refine Ev.run 5 fd_e100 (i' := 15) (ls' := [fx_f a, .inl (x1), .inl (x2), .inl (x3), .inl (s0), .inl (0), .inl (0), fx_u, fx_u]) (st' := []) (M1 := M) rfl ?_
  exact k
theorem r100_15T {X : fx_Sc} {M M' : fx_M} {r : Option fx_V} {a : Nat} {x1 x2 x3 x4 x5 x6 : Int} {v7 v8 : fx_V} (g : (-2147483648 ≤ x6 ∧ x6 < 2147483648)) (h : 24 ≤ x6) (k : Ev X 100 45 [fx_f a, .inl (x1), .inl (x2), .inl (x3), .inl (x4), .inl (x5), .inl (x6), v7, v8] [] M r M') : Ev X 100 15 [fx_f a, .inl (x1), .inl (x2), .inl (x3), .inl (x4), .inl (x5), .inl (x6), v7, v8] [] M r M' := by
  refine Ev.run 2 fd_e100 (i' := 17) (ls' := [fx_f a, .inl (x1), .inl (x2), .inl (x3), .inl (x4), .inl (x5), .inl (x6), v7, v8]) (st' := [.inl (24), .inl (x6)]) (M1 := M) rfl ?_
  refine Ev.icT fd_e100 rfl g (by decide) (decide_eq_true h) ?_
  exact k
theorem r100_15F {X : fx_Sc} {M M' : fx_M} {r : Option fx_V} {a : Nat} {x1 x2 x3 x4 x5 x6 : Int} {v7 v8 : fx_V} (g : (-2147483648 ≤ x6 ∧ x6 < 2147483648)) (h : x6 < 24) (k : Ev X 100 18 [fx_f a, .inl (x1), .inl (x2), .inl (x3), .inl (x4), .inl (x5), .inl (x6), v7, v8] [] M r M') : Ev X 100 15 [fx_f a, .inl (x1), .inl (x2), .inl (x3), .inl (x4), .inl (x5), .inl (x6), v7, v8] [] M r M' := by
  refine Ev.run 2 fd_e100 (i' := 17) (ls' := [fx_f a, .inl (x1), .inl (x2), .inl (x3), .inl (x4), .inl (x5), .inl (x6), v7, v8]) (st' := [.inl (24), .inl (x6)]) (M1 := M) rfl ?_
  refine Ev.icF fd_e100 rfl g (by decide) (decide_eq_false (Int.not_le.mpr h)) ?_
  exact k
theorem r100_18 {X : fx_Sc} {M M' : fx_M} {r : Option fx_V} {a : Nat} {x1 x2 x3 x4 x5 x6 z : Int} {v7 v8 : fx_V} {M1 : fx_M} (hc : Ev X 3 0 [.inl (x2), .inl (x6)] [] M (some (.inl z)) M1) (k : Ev X 100 22 [fx_f a, .inl (x1), .inl (x2), .inl (x3), .inl (x4), .inl (x5), .inl (x6), v7, v8] [.inl (z), fx_f a] M1 r M') : Ev X 100 18 [fx_f a, .inl (x1), .inl (x2), .inl (x3), .inl (x4), .inl (x5), .inl (x6), v7, v8] [] M r M' := by
  refine Ev.run 3 fd_e100 (i' := 21) (ls' := [fx_f a, .inl (x1), .inl (x2), .inl (x3), .inl (x4), .inl (x5), .inl (x6), v7, v8]) (st' := [.inl (x6), .inl (x2), fx_f a]) (M1 := M) rfl ?_
  refine Ev.callS (vs := [.inl (x2), .inl (x6)]) (rest := [fx_f a]) (r1 := (some (.inl z))) fd_e100 rfl rfl rfl (Nat.le_of_ble_eq_true rfl) (Nat.le_of_ble_eq_true rfl) hc ?_
  exact k
theorem r100_22 {X : fx_Sc} {M M' : fx_M} {r : Option fx_V} {a : Nat} {x1 x2 x3 x4 x5 x6 s1 z : Int} {v7 v8 : fx_V} {M1 : fx_M} (ha : fd_isS a) (hc : Ev X 84 0 [fx_f a, .inl (s1)] [] M (some (.inl z)) M1) (k : Ev X 100 23 [fx_f a, .inl (x1), .inl (x2), .inl (x3), .inl (x4), .inl (x5), .inl (x6), v7, v8] [.inl (z)] M1 r M') : Ev X 100 22 [fx_f a, .inl (x1), .inl (x2), .inl (x3), .inl (x4), .inl (x5), .inl (x6), v7, v8] [.inl (s1), fx_f a] M r M' := by
  refine Ev.callV (vs := [fx_f a, .inl (s1)]) (rest := []) (r1 := (some (.inl z))) fd_e100 rfl rfl rfl (Nat.le_of_ble_eq_true rfl) (Nat.le_of_ble_eq_true rfl) (fd_rcvS ha) hc ?_
  exact k
theorem r100_23T {X : fx_Sc} {M M' : fx_M} {r : Option fx_V} {a : Nat} {x1 x2 x3 x4 x5 x6 s0 : Int} {v7 v8 : fx_V} (g : (-2147483648 ≤ x6 ∧ x6 < 2147483648) ∧ (-2147483648 ≤ s0 ∧ s0 < 2147483648)) (h : s0 ≤ x6) (k : Ev X 100 29 [fx_f a, .inl (x1), .inl (x2), .inl (x3), .inl (x4), .inl (x5), .inl (x6), .inl (s0), v8] [] M r M') : Ev X 100 23 [fx_f a, .inl (x1), .inl (x2), .inl (x3), .inl (x4), .inl (x5), .inl (x6), v7, v8] [.inl (s0)] M r M' := by
  refine Ev.run 3 fd_e100 (i' := 26) (ls' := [fx_f a, .inl (x1), .inl (x2), .inl (x3), .inl (x4), .inl (x5), .inl (x6), .inl (s0), v8]) (st' := [.inl (s0), .inl (x6)]) (M1 := M) rfl ?_
  refine Ev.icT fd_e100 rfl g.1 g.2 (decide_eq_true h) ?_
  exact k
theorem r100_23F {X : fx_Sc} {M M' : fx_M} {r : Option fx_V} {a : Nat} {x1 x2 x3 x4 x5 x6 s0 : Int} {v7 v8 : fx_V} (g : (-2147483648 ≤ x6 ∧ x6 < 2147483648) ∧ (-2147483648 ≤ s0 ∧ s0 < 2147483648)) (h : x6 < s0) (k : Ev X 100 27 [fx_f a, .inl (x1), .inl (x2), .inl (x3), .inl (x4), .inl (x5), .inl (x6), .inl (s0), v8] [] M r M') : Ev X 100 23 [fx_f a, .inl (x1), .inl (x2), .inl (x3), .inl (x4), .inl (x5), .inl (x6), v7, v8] [.inl (s0)] M r M' := by
  refine Ev.run 3 fd_e100 (i' := 26) (ls' := [fx_f a, .inl (x1), .inl (x2), .inl (x3), .inl (x4), .inl (x5), .inl (x6), .inl (s0), v8]) (st' := [.inl (s0), .inl (x6)]) (M1 := M) rfl ?_
  refine Ev.icF fd_e100 rfl g.1 g.2 (decide_eq_false (Int.not_le.mpr h)) ?_
  exact k
theorem r100_27 {X : fx_Sc} {M M' : fx_M} {r : Option fx_V} {a : Nat} {x1 x2 x3 x4 x5 x6 x7 z : Int} {v8 : fx_V} {M1 : fx_M} (hc : Ev X 101 0 [.inl (x6), .inl (x3), .inl (x4), fx_u, fx_u, fx_u] [] M (some (.inl z)) M1) (k : Ev X 100 37 [fx_f a, .inl (x1), .inl (x2), .inl (x3), .inl (x4), .inl (x5), .inl (x6), .inl (x7), .inl (1)] [.inl (z)] M1 r M') : Ev X 100 27 [fx_f a, .inl (x1), .inl (x2), .inl (x3), .inl (x4), .inl (x5), .inl (x6), .inl (x7), v8] [] M r M' := by
  refine Ev.run 4 fd_e100 (i' := 32) (ls' := [fx_f a, .inl (x1), .inl (x2), .inl (x3), .inl (x4), .inl (x5), .inl (x6), .inl (x7), .inl (1)]) (st' := [.inl (1)]) (M1 := M) rfl ?_
  refine Ev.ifF fd_e100 rfl (by decide) (by decide) ?_
  refine Ev.run 3 fd_e100 (i' := 36) (ls' := [fx_f a, .inl (x1), .inl (x2), .inl (x3), .inl (x4), .inl (x5), .inl (x6), .inl (x7), .inl (1)]) (st' := [.inl (x4), .inl (x3), .inl (x6)]) (M1 := M) rfl ?_
  refine Ev.callS (vs := [.inl (x6), .inl (x3), .inl (x4)]) (rest := []) (r1 := (some (.inl z))) fd_e100 rfl rfl rfl (Nat.le_of_ble_eq_true rfl) (Nat.le_of_ble_eq_true rfl) hc ?_
  exact k
theorem r100_29 {X : fx_Sc} {M M' : fx_M} {r : Option fx_V} {a : Nat} {x1 x2 x3 x4 x5 x6 x7 : Int} {v8 : fx_V} (k : Ev X 100 15 [fx_f a, .inl (x1), .inl (x2), .inl (x3), .inl (x4), .inl (x5), .inl ((x6 + 1)), .inl (x7), .inl (0)] [] M r M') : Ev X 100 29 [fx_f a, .inl (x1), .inl (x2), .inl (x3), .inl (x4), .inl (x5), .inl (x6), .inl (x7), v8] [] M r M' := by
  refine Ev.run 3 fd_e100 (i' := 32) (ls' := [fx_f a, .inl (x1), .inl (x2), .inl (x3), .inl (x4), .inl (x5), .inl (x6), .inl (x7), .inl (0)]) (st' := [.inl (0)]) (M1 := M) rfl ?_
  refine Ev.ifT fd_e100 rfl (by decide) (by decide) ?_
  refine Ev.run 2 fd_e100 (i' := 15) (ls' := [fx_f a, .inl (x1), .inl (x2), .inl (x3), .inl (x4), .inl (x5), .inl ((x6 + 1)), .inl (x7), .inl (0)]) (st' := []) (M1 := M) rfl ?_
  exact k
theorem r100_33 {X : fx_Sc} {M M' : fx_M} {r : Option fx_V} {a : Nat} {x1 x2 x3 x4 x5 x6 x7 x8 z : Int} {M1 : fx_M} (hc : Ev X 101 0 [.inl (x6), .inl (x3), .inl (x4), fx_u, fx_u, fx_u] [] M (some (.inl z)) M1) (k : Ev X 100 37 [fx_f a, .inl (x1), .inl (x2), .inl (x3), .inl (x4), .inl (x5), .inl (x6), .inl (x7), .inl (x8)] [.inl (z)] M1 r M') : Ev X 100 33 [fx_f a, .inl (x1), .inl (x2), .inl (x3), .inl (x4), .inl (x5), .inl (x6), .inl (x7), .inl (x8)] [] M r M' := by
  refine Ev.run 3 fd_e100 (i' := 36) (ls' := [fx_f a, .inl (x1), .inl (x2), .inl (x3), .inl (x4), .inl (x5), .inl (x6), .inl (x7), .inl (x8)]) (st' := [.inl (x4), .inl (x3), .inl (x6)]) (M1 := M) rfl ?_
  refine Ev.callS (vs := [.inl (x6), .inl (x3), .inl (x4)]) (rest := []) (r1 := (some (.inl z))) fd_e100 rfl rfl rfl (Nat.le_of_ble_eq_true rfl) (Nat.le_of_ble_eq_true rfl) hc ?_
  exact k
theorem r100_37 {X : fx_Sc} {M M' : fx_M} {r : Option fx_V} {a : Nat} {x1 x2 x3 x4 x5 x6 x7 x8 s0 z : Int} {M1 : fx_M} (hc : Ev X 101 0 [.inl (x7), .inl (x3), .inl (x4), fx_u, fx_u, fx_u] [] M (some (.inl z)) M1) (k : Ev X 100 41 [fx_f a, .inl (x1), .inl (x2), .inl (x3), .inl (x4), .inl (x5), .inl (x6), .inl (x7), .inl (x8)] [.inl (z), .inl (s0)] M1 r M') : Ev X 100 37 [fx_f a, .inl (x1), .inl (x2), .inl (x3), .inl (x4), .inl (x5), .inl (x6), .inl (x7), .inl (x8)] [.inl (s0)] M r M' := by
  refine Ev.run 3 fd_e100 (i' := 40) (ls' := [fx_f a, .inl (x1), .inl (x2), .inl (x3), .inl (x4), .inl (x5), .inl (x6), .inl (x7), .inl (x8)]) (st' := [.inl (x4), .inl (x3), .inl (x7), .inl (s0)]) (M1 := M) rfl ?_
  refine Ev.callS (vs := [.inl (x7), .inl (x3), .inl (x4)]) (rest := [.inl (s0)]) (r1 := (some (.inl z))) fd_e100 rfl rfl rfl (Nat.le_of_ble_eq_true rfl) (Nat.le_of_ble_eq_true rfl) hc ?_
  exact k
theorem r100_41T {X : fx_Sc} {M M' : fx_M} {r : Option fx_V} {a : Nat} {x1 x2 x3 x4 x5 x6 x7 x8 s0 s1 : Int} (g : (-2147483648 ≤ s0 ∧ s0 < 2147483648) ∧ (-2147483648 ≤ s1 ∧ s1 < 2147483648)) (h : s0 = s1) (k : Ev X 100 43 [fx_f a, .inl (x1), .inl (x2), .inl (x3), .inl (x4), .inl (x5), .inl (x6), .inl (x7), .inl (x8)] [] M r M') : Ev X 100 41 [fx_f a, .inl (x1), .inl (x2), .inl (x3), .inl (x4), .inl (x5), .inl (x6), .inl (x7), .inl (x8)] [.inl (s1), .inl (s0)] M r M' := by
  refine Ev.icT fd_e100 rfl g.1 g.2 (decide_eq_true h) ?_
  exact k
theorem r100_41F {X : fx_Sc} {M M' : fx_M} {r : Option fx_V} {a : Nat} {x1 x2 x3 x4 x5 x6 x7 x8 s0 s1 : Int} (g : (-2147483648 ≤ s0 ∧ s0 < 2147483648) ∧ (-2147483648 ≤ s1 ∧ s1 < 2147483648)) (h : s0 ≠ s1) (k : Ev X 100 42 [fx_f a, .inl (x1), .inl (x2), .inl (x3), .inl (x4), .inl (x5), .inl (x6), .inl (x7), .inl (x8)] [] M r M') : Ev X 100 41 [fx_f a, .inl (x1), .inl (x2), .inl (x3), .inl (x4), .inl (x5), .inl (x6), .inl (x7), .inl (x8)] [.inl (s1), .inl (s0)] M r M' := by
  refine Ev.icF fd_e100 rfl g.1 g.2 (decide_eq_false h) ?_
  exact k
theorem r100_42 {X : fx_Sc} {M M' : fx_M} {r : Option fx_V} {a : Nat} {x1 x2 x3 x4 x5 x6 x7 x8 : Int} (k : Ev X 100 15 [fx_f a, .inl (x1), .inl (x2), .inl (x3), .inl (x4), .inl ((x5 + 1)), .inl ((x6 + 1)), .inl (x7), .inl (x8)] [] M r M') : Ev X 100 42 [fx_f a, .inl (x1), .inl (x2), .inl (x3), .inl (x4), .inl (x5), .inl (x6), .inl (x7), .inl (x8)] [] M r M' := by
  refine Ev.run 3 fd_e100 (i' := 15) (ls' := [fx_f a, .inl (x1), .inl (x2), .inl (x3), .inl (x4), .inl ((x5 + 1)), .inl ((x6 + 1)), .inl (x7), .inl (x8)]) (st' := []) (M1 := M) rfl ?_
  exact k
theorem r100_43 {X : fx_Sc} {M M' : fx_M} {r : Option fx_V} {a : Nat} {x1 x2 x3 x4 x5 x6 x7 x8 : Int} (k : Ev X 100 15 [fx_f a, .inl (x1), .inl (x2), .inl (x3), .inl (x4), .inl (x5), .inl ((x6 + 1)), .inl (x7), .inl (x8)] [] M r M') : Ev X 100 43 [fx_f a, .inl (x1), .inl (x2), .inl (x3), .inl (x4), .inl (x5), .inl (x6), .inl (x7), .inl (x8)] [] M r M' := by
  refine Ev.run 2 fd_e100 (i' := 15) (ls' := [fx_f a, .inl (x1), .inl (x2), .inl (x3), .inl (x4), .inl (x5), .inl ((x6 + 1)), .inl (x7), .inl (x8)]) (st' := []) (M1 := M) rfl ?_
  exact k
theorem r100_45 {X : fx_Sc} {M : fx_M} {a : Nat} {x1 x2 x3 x4 x5 x6 : Int} {v7 v8 : fx_V} : Ev X 100 45 [fx_f a, .inl (x1), .inl (x2), .inl (x3), .inl (x4), .inl (x5), .inl (x6), v7, v8] [] M (some (.inl (x5))) M := by
  refine Ev.run 1 fd_e100 (i' := 46) (ls' := [fx_f a, .inl (x1), .inl (x2), .inl (x3), .inl (x4), .inl (x5), .inl (x6), v7, v8]) (st' := [.inl (x5)]) (M1 := M) rfl ?_
  exact Ev.ret1 fd_e100 rfl rfl
-- 101: FoldedStrips$Strip.isBetween(III)Z
theorem fd_e101 : fd_C 101 = fd_c101 := rfl
theorem r101_0 {X : fx_Sc} {M M' : fx_M} {r : Option fx_V} {x0 x1 x2 z : Int} {M1 : fx_M} (hc : Ev X 102 0 [.inl (x0)] [] M (some (.inl z)) M1) (k : Ev X 101 2 [.inl (x0), .inl (x1), .inl (x2), fx_u, fx_u, fx_u] [.inl (z)] M1 r M') : Ev X 101 0 [.inl (x0), .inl (x1), .inl (x2), fx_u, fx_u, fx_u] [] M r M' := by
  refine Ev.run 1 fd_e101 (i' := 1) (ls' := [.inl (x0), .inl (x1), .inl (x2), fx_u, fx_u, fx_u]) (st' := [.inl (x0)]) (M1 := M) rfl ?_
  refine Ev.callS (vs := [.inl (x0)]) (rest := []) (r1 := (some (.inl z))) fd_e101 rfl rfl rfl (Nat.le_of_ble_eq_true rfl) (Nat.le_of_ble_eq_true rfl) hc ?_
  exact k
theorem r101_2 {X : fx_Sc} {M M' : fx_M} {r : Option fx_V} {x0 x1 x2 s0 z : Int} {M1 : fx_M} (hc : Ev X 102 0 [.inl (x1)] [] M (some (.inl z)) M1) (k : Ev X 101 5 [.inl (x0), .inl (x1), .inl (x2), .inl (s0), fx_u, fx_u] [.inl (z)] M1 r M') : Ev X 101 2 [.inl (x0), .inl (x1), .inl (x2), fx_u, fx_u, fx_u] [.inl (s0)] M r M' := by
  refine Ev.run 2 fd_e101 (i' := 4) (ls' := [.inl (x0), .inl (x1), .inl (x2), .inl (s0), fx_u, fx_u]) (st' := [.inl (x1)]) (M1 := M) rfl ?_
  refine Ev.callS (vs := [.inl (x1)]) (rest := []) (r1 := (some (.inl z))) fd_e101 rfl rfl rfl (Nat.le_of_ble_eq_true rfl) (Nat.le_of_ble_eq_true rfl) hc ?_
  exact k
theorem r101_5 {X : fx_Sc} {M M' : fx_M} {r : Option fx_V} {x0 x1 x2 x3 s0 z : Int} {M1 : fx_M} (hc : Ev X 102 0 [.inl (x2)] [] M (some (.inl z)) M1) (k : Ev X 101 7 [.inl (x0), .inl (x1), .inl (x2), .inl (x3), fx_u, fx_u] [.inl (z), .inl (s0)] M1 r M') : Ev X 101 5 [.inl (x0), .inl (x1), .inl (x2), .inl (x3), fx_u, fx_u] [.inl (s0)] M r M' := by
  refine Ev.run 1 fd_e101 (i' := 6) (ls' := [.inl (x0), .inl (x1), .inl (x2), .inl (x3), fx_u, fx_u]) (st' := [.inl (x2), .inl (s0)]) (M1 := M) rfl ?_
  refine Ev.callS (vs := [.inl (x2)]) (rest := [.inl (s0)]) (r1 := (some (.inl z))) fd_e101 rfl rfl rfl (Nat.le_of_ble_eq_true rfl) (Nat.le_of_ble_eq_true rfl) hc ?_
  exact k
theorem r101_7 {X : fx_Sc} {M M' : fx_M} {r : Option fx_V} {x0 x1 x2 x3 s0 s1 z : Int} {M1 : fx_M} (g : (-2147483648 ≤ s0 ∧ s0 < 2147483648) ∧ (-2147483648 ≤ s1 ∧ s1 < 2147483648)) (hc : Ev X 102 0 [.inl (x1)] [] M (some (.inl z)) M1) (k : Ev X 101 11 [.inl (x0), .inl (x1), .inl (x2), .inl (x3), .inl ((if s1 < s0 then s1 else s0)), fx_u] [.inl (z)] M1 r M') : Ev X 101 7 [.inl (x0), .inl (x1), .inl (x2), .inl (x3), fx_u, fx_u] [.inl (s1), .inl (s0)] M r M' := by
  refine Ev.min fd_e101 rfl g.1 g.2 (Nat.le_of_ble_eq_true rfl) ?_
  refine Ev.run 2 fd_e101 (i' := 10) (ls' := [.inl (x0), .inl (x1), .inl (x2), .inl (x3), .inl ((if s1 < s0 then s1 else s0)), fx_u]) (st' := [.inl (x1)]) (M1 := M) rfl ?_
  refine Ev.callS (vs := [.inl (x1)]) (rest := []) (r1 := (some (.inl z))) fd_e101 rfl rfl rfl (Nat.le_of_ble_eq_true rfl) (Nat.le_of_ble_eq_true rfl) hc ?_
  exact k
theorem r101_11 {X : fx_Sc} {M M' : fx_M} {r : Option fx_V} {x0 x1 x2 x3 x4 s0 z : Int} {M1 : fx_M} (hc : Ev X 102 0 [.inl (x2)] [] M (some (.inl z)) M1) (k : Ev X 101 13 [.inl (x0), .inl (x1), .inl (x2), .inl (x3), .inl (x4), fx_u] [.inl (z), .inl (s0)] M1 r M') : Ev X 101 11 [.inl (x0), .inl (x1), .inl (x2), .inl (x3), .inl (x4), fx_u] [.inl (s0)] M r M' := by
  refine Ev.run 1 fd_e101 (i' := 12) (ls' := [.inl (x0), .inl (x1), .inl (x2), .inl (x3), .inl (x4), fx_u]) (st' := [.inl (x2), .inl (s0)]) (M1 := M) rfl ?_
  refine Ev.callS (vs := [.inl (x2)]) (rest := [.inl (s0)]) (r1 := (some (.inl z))) fd_e101 rfl rfl rfl (Nat.le_of_ble_eq_true rfl) (Nat.le_of_ble_eq_true rfl) hc ?_
  exact k
theorem r101_13T {X : fx_Sc} {M M' : fx_M} {r : Option fx_V} {x0 x1 x2 x3 x4 s0 s1 : Int} (g : (-2147483648 ≤ s0 ∧ s0 < 2147483648) ∧ (-2147483648 ≤ s1 ∧ s1 < 2147483648) ∧ (-2147483648 ≤ x4 ∧ x4 < 2147483648) ∧ (-2147483648 ≤ x3 ∧ x3 < 2147483648)) (h : x3 ≤ x4) (k : Ev X 101 23 [.inl (x0), .inl (x1), .inl (x2), .inl (x3), .inl (x4), .inl ((if s0 < s1 then s1 else s0))] [] M r M') : Ev X 101 13 [.inl (x0), .inl (x1), .inl (x2), .inl (x3), .inl (x4), fx_u] [.inl (s1), .inl (s0)] M r M' := by
  refine Ev.max fd_e101 rfl g.1 g.2.1 (Nat.le_of_ble_eq_true rfl) ?_
  refine Ev.run 3 fd_e101 (i' := 17) (ls' := [.inl (x0), .inl (x1), .inl (x2), .inl (x3), .inl (x4), .inl ((if s0 < s1 then s1 else s0))]) (st' := [.inl (x3), .inl (x4)]) (M1 := M) rfl ?_
  refine Ev.icT fd_e101 rfl g.2.2.1 g.2.2.2 (decide_eq_true h) ?_
  exact k
theorem r101_13F {X : fx_Sc} {M M' : fx_M} {r : Option fx_V} {x0 x1 x2 x3 x4 s0 s1 : Int} (g : (-2147483648 ≤ s0 ∧ s0 < 2147483648) ∧ (-2147483648 ≤ s1 ∧ s1 < 2147483648) ∧ (-2147483648 ≤ x4 ∧ x4 < 2147483648) ∧ (-2147483648 ≤ x3 ∧ x3 < 2147483648)) (h : x4 < x3) (k : Ev X 101 18 [.inl (x0), .inl (x1), .inl (x2), .inl (x3), .inl (x4), .inl ((if s0 < s1 then s1 else s0))] [] M r M') : Ev X 101 13 [.inl (x0), .inl (x1), .inl (x2), .inl (x3), .inl (x4), fx_u] [.inl (s1), .inl (s0)] M r M' := by
  refine Ev.max fd_e101 rfl g.1 g.2.1 (Nat.le_of_ble_eq_true rfl) ?_
  refine Ev.run 3 fd_e101 (i' := 17) (ls' := [.inl (x0), .inl (x1), .inl (x2), .inl (x3), .inl (x4), .inl ((if s0 < s1 then s1 else s0))]) (st' := [.inl (x3), .inl (x4)]) (M1 := M) rfl ?_
  refine Ev.icF fd_e101 rfl g.2.2.1 g.2.2.2 (decide_eq_false (Int.not_le.mpr h)) ?_
  exact k
theorem r101_18T {X : fx_Sc} {M M' : fx_M} {r : Option fx_V} {x0 x1 x2 x3 x4 x5 : Int} (g : (-2147483648 ≤ x3 ∧ x3 < 2147483648) ∧ (-2147483648 ≤ x5 ∧ x5 < 2147483648)) (h : x5 ≤ x3) (k : Ev X 101 23 [.inl (x0), .inl (x1), .inl (x2), .inl (x3), .inl (x4), .inl (x5)] [] M r M') : Ev X 101 18 [.inl (x0), .inl (x1), .inl (x2), .inl (x3), .inl (x4), .inl (x5)] [] M r M' := by
  refine Ev.run 2 fd_e101 (i' := 20) (ls' := [.inl (x0), .inl (x1), .inl (x2), .inl (x3), .inl (x4), .inl (x5)]) (st' := [.inl (x5), .inl (x3)]) (M1 := M) rfl ?_
  refine Ev.icT fd_e101 rfl g.1 g.2 (decide_eq_true h) ?_
  exact k
theorem r101_18F {X : fx_Sc} {M M' : fx_M} {r : Option fx_V} {x0 x1 x2 x3 x4 x5 : Int} (g : (-2147483648 ≤ x3 ∧ x3 < 2147483648) ∧ (-2147483648 ≤ x5 ∧ x5 < 2147483648)) (h : x3 < x5) (k : Ev X 101 21 [.inl (x0), .inl (x1), .inl (x2), .inl (x3), .inl (x4), .inl (x5)] [] M r M') : Ev X 101 18 [.inl (x0), .inl (x1), .inl (x2), .inl (x3), .inl (x4), .inl (x5)] [] M r M' := by
  refine Ev.run 2 fd_e101 (i' := 20) (ls' := [.inl (x0), .inl (x1), .inl (x2), .inl (x3), .inl (x4), .inl (x5)]) (st' := [.inl (x5), .inl (x3)]) (M1 := M) rfl ?_
  refine Ev.icF fd_e101 rfl g.1 g.2 (decide_eq_false (Int.not_le.mpr h)) ?_
  exact k
theorem r101_21 {X : fx_Sc} {M : fx_M} {x0 x1 x2 x3 x4 x5 : Int} : Ev X 101 21 [.inl (x0), .inl (x1), .inl (x2), .inl (x3), .inl (x4), .inl (x5)] [] M (some (.inl (1))) M := by
  refine Ev.run 2 fd_e101 (i' := 24) (ls' := [.inl (x0), .inl (x1), .inl (x2), .inl (x3), .inl (x4), .inl (x5)]) (st' := [.inl (1)]) (M1 := M) rfl ?_
  exact Ev.ret2 fd_e101 rfl rfl (by decide)
theorem r101_23 {X : fx_Sc} {M : fx_M} {x0 x1 x2 x3 x4 x5 : Int} : Ev X 101 23 [.inl (x0), .inl (x1), .inl (x2), .inl (x3), .inl (x4), .inl (x5)] [] M (some (.inl (0))) M := by
  refine Ev.run 1 fd_e101 (i' := 24) (ls' := [.inl (x0), .inl (x1), .inl (x2), .inl (x3), .inl (x4), .inl (x5)]) (st' := [.inl (0)]) (M1 := M) rfl ?_
  exact Ev.ret2 fd_e101 rfl rfl (by decide)
-- 102: FoldedStrips$Strip.aroundEdge(I)I
theorem fd_e102 : fd_C 102 = fd_c102 := rfl
theorem r102_0T {X : fx_Sc} {M M' : fx_M} {r : Option fx_V} {x0 : Int} (g : (-2147483648 ≤ x0 ∧ x0 < 2147483648)) (h : 12 ≤ x0) (k : Ev X 102 5 [.inl (x0)] [] M r M') : Ev X 102 0 [.inl (x0)] [] M r M' := by
  refine Ev.run 2 fd_e102 (i' := 2) (ls' := [.inl (x0)]) (st' := [.inl (12), .inl (x0)]) (M1 := M) rfl ?_
  refine Ev.icT fd_e102 rfl g (by decide) (decide_eq_true h) ?_
  exact k
theorem r102_0F {X : fx_Sc} {M M' : fx_M} {r : Option fx_V} {x0 : Int} (g : (-2147483648 ≤ x0 ∧ x0 < 2147483648)) (h : x0 < 12) (k : Ev X 102 3 [.inl (x0)] [] M r M') : Ev X 102 0 [.inl (x0)] [] M r M' := by
  refine Ev.run 2 fd_e102 (i' := 2) (ls' := [.inl (x0)]) (st' := [.inl (12), .inl (x0)]) (M1 := M) rfl ?_
  refine Ev.icF fd_e102 rfl g (by decide) (decide_eq_false (Int.not_le.mpr h)) ?_
  exact k
theorem r102_3 {X : fx_Sc} {M : fx_M} {x0 : Int} : Ev X 102 3 [.inl (x0)] [] M (some (.inl (x0))) M := by
  refine Ev.run 2 fd_e102 (i' := 10) (ls' := [.inl (x0)]) (st' := [.inl (x0)]) (M1 := M) rfl ?_
  exact Ev.ret1 fd_e102 rfl rfl
theorem r102_5 {X : fx_Sc} {M : fx_M} {x0 : Int} : Ev X 102 5 [.inl (x0)] [] M (some (.inl ((23 - (x0 - 12))))) M := by
  refine Ev.run 5 fd_e102 (i' := 10) (ls' := [.inl (x0)]) (st' := [.inl ((23 - (x0 - 12)))]) (M1 := M) rfl ?_
  exact Ev.ret1 fd_e102 rfl rfl
-- 103: FoldedStrips$Strip.crossingPairsIn(I)I
theorem fd_e103 : fd_C 103 = fd_c103 := rfl
theorem r103_0 {X : fx_Sc} {M M' : fx_M} {r : Option fx_V} {a : Nat} {x1 : Int} (k : Ev X 103 4 [fx_f a, .inl (x1), .inl (0), .inl (0)] [] M r M') : Ev X 103 0 [fx_f a, .inl (x1), fx_u, fx_u] [] M r M' := by
  refine Ev.run 4 fd_e103 (i' := 4) (ls' := [fx_f a, .inl (x1), .inl (0), .inl (0)]) (st' := []) (M1 := M) rfl ?_
  exact k
theorem r103_4T {X : fx_Sc} {M M' : fx_M} {r : Option fx_V} {a : Nat} {x1 x2 x3 : Int} (g : (-2147483648 ≤ x3 ∧ x3 < 2147483648)) (h : 24 ≤ x3) (k : Ev X 103 24 [fx_f a, .inl (x1), .inl (x2), .inl (x3)] [] M r M') : Ev X 103 4 [fx_f a, .inl (x1), .inl (x2), .inl (x3)] [] M r M' := by
  refine Ev.run 2 fd_e103 (i' := 6) (ls' := [fx_f a, .inl (x1), .inl (x2), .inl (x3)]) (st' := [.inl (24), .inl (x3)]) (M1 := M) rfl ?_
  refine Ev.icT fd_e103 rfl g (by decide) (decide_eq_true h) ?_
  exact k
theorem r103_4F {X : fx_Sc} {M M' : fx_M} {r : Option fx_V} {a : Nat} {x1 x2 x3 : Int} (g : (-2147483648 ≤ x3 ∧ x3 < 2147483648)) (h : x3 < 24) (k : Ev X 103 7 [fx_f a, .inl (x1), .inl (x2), .inl (x3)] [] M r M') : Ev X 103 4 [fx_f a, .inl (x1), .inl (x2), .inl (x3)] [] M r M' := by
  refine Ev.run 2 fd_e103 (i' := 6) (ls' := [fx_f a, .inl (x1), .inl (x2), .inl (x3)]) (st' := [.inl (24), .inl (x3)]) (M1 := M) rfl ?_
  refine Ev.icF fd_e103 rfl g (by decide) (decide_eq_false (Int.not_le.mpr h)) ?_
  exact k
theorem r103_7 {X : fx_Sc} {M M' : fx_M} {r : Option fx_V} {a : Nat} {x1 x2 x3 z : Int} {M1 : fx_M} (hc : Ev X 3 0 [.inl (x1), .inl (x3)] [] M (some (.inl z)) M1) (k : Ev X 103 12 [fx_f a, .inl (x1), .inl (x2), .inl (x3)] [.inl (z), fx_f a, .inl (x3)] M1 r M') : Ev X 103 7 [fx_f a, .inl (x1), .inl (x2), .inl (x3)] [] M r M' := by
  refine Ev.run 4 fd_e103 (i' := 11) (ls' := [fx_f a, .inl (x1), .inl (x2), .inl (x3)]) (st' := [.inl (x3), .inl (x1), fx_f a, .inl (x3)]) (M1 := M) rfl ?_
  refine Ev.callS (vs := [.inl (x1), .inl (x3)]) (rest := [fx_f a, .inl (x3)]) (r1 := (some (.inl z))) fd_e103 rfl rfl rfl (Nat.le_of_ble_eq_true rfl) (Nat.le_of_ble_eq_true rfl) hc ?_
  exact k
theorem r103_12 {X : fx_Sc} {M M' : fx_M} {r : Option fx_V} {a : Nat} {x1 x2 x3 s0 s2 z : Int} {M1 : fx_M} (ha : fd_isS a) (hc : Ev X 84 0 [fx_f a, .inl (s2)] [] M (some (.inl z)) M1) (k : Ev X 103 13 [fx_f a, .inl (x1), .inl (x2), .inl (x3)] [.inl (z), .inl (s0)] M1 r M') : Ev X 103 12 [fx_f a, .inl (x1), .inl (x2), .inl (x3)] [.inl (s2), fx_f a, .inl (s0)] M r M' := by
  refine Ev.callV (vs := [fx_f a, .inl (s2)]) (rest := [.inl (s0)]) (r1 := (some (.inl z))) fd_e103 rfl rfl rfl (Nat.le_of_ble_eq_true rfl) (Nat.le_of_ble_eq_true rfl) (fd_rcvS ha) hc ?_
  exact k
theorem r103_13T {X : fx_Sc} {M M' : fx_M} {r : Option fx_V} {a : Nat} {x1 x2 x3 s0 s1 : Int} (g : (-2147483648 ≤ s0 ∧ s0 < 2147483648) ∧ (-2147483648 ≤ s1 ∧ s1 < 2147483648)) (h : s1 ≤ s0) (k : Ev X 103 22 [fx_f a, .inl (x1), .inl (x2), .inl (x3)] [] M r M') : Ev X 103 13 [fx_f a, .inl (x1), .inl (x2), .inl (x3)] [.inl (s1), .inl (s0)] M r M' := by
  refine Ev.icT fd_e103 rfl g.1 g.2 (decide_eq_true h) ?_
  exact k
theorem r103_13F {X : fx_Sc} {M M' : fx_M} {r : Option fx_V} {a : Nat} {x1 x2 x3 s0 s1 : Int} (g : (-2147483648 ≤ s0 ∧ s0 < 2147483648) ∧ (-2147483648 ≤ s1 ∧ s1 < 2147483648)) (h : s0 < s1) (k : Ev X 103 14 [fx_f a, .inl (x1), .inl (x2), .inl (x3)] [] M r M') : Ev X 103 13 [fx_f a, .inl (x1), .inl (x2), .inl (x3)] [.inl (s1), .inl (s0)] M r M' := by
  refine Ev.icF fd_e103 rfl g.1 g.2 (decide_eq_false (Int.not_le.mpr h)) ?_
  exact k
theorem r103_14 {X : fx_Sc} {M M' : fx_M} {r : Option fx_V} {a : Nat} {x1 x2 x3 z : Int} {M1 : fx_M} (hc : Ev X 3 0 [.inl (x1), .inl (x3)] [] M (some (.inl z)) M1) (k : Ev X 103 19 [fx_f a, .inl (x1), .inl (x2), .inl (x3)] [.inl (z), fx_f a, .inl (x2)] M1 r M') : Ev X 103 14 [fx_f a, .inl (x1), .inl (x2), .inl (x3)] [] M r M' := by
  refine Ev.run 4 fd_e103 (i' := 18) (ls' := [fx_f a, .inl (x1), .inl (x2), .inl (x3)]) (st' := [.inl (x3), .inl (x1), fx_f a, .inl (x2)]) (M1 := M) rfl ?_
  refine Ev.callS (vs := [.inl (x1), .inl (x3)]) (rest := [fx_f a, .inl (x2)]) (r1 := (some (.inl z))) fd_e103 rfl rfl rfl (Nat.le_of_ble_eq_true rfl) (Nat.le_of_ble_eq_true rfl) hc ?_
  exact k
theorem r103_19 {X : fx_Sc} {M M' : fx_M} {r : Option fx_V} {a : Nat} {x1 x2 x3 s0 s2 z : Int} {M1 : fx_M} (ha : fd_isS a) (hc : Ev X 100 0 [fx_f a, .inl (s2), fx_u, fx_u, fx_u, fx_u, fx_u, fx_u, fx_u] [] M (some (.inl z)) M1) (k : Ev X 103 20 [fx_f a, .inl (x1), .inl (x2), .inl (x3)] [.inl (z), .inl (s0)] M1 r M') : Ev X 103 19 [fx_f a, .inl (x1), .inl (x2), .inl (x3)] [.inl (s2), fx_f a, .inl (s0)] M r M' := by
  refine Ev.callV (vs := [fx_f a, .inl (s2)]) (rest := [.inl (s0)]) (r1 := (some (.inl z))) fd_e103 rfl rfl rfl (Nat.le_of_ble_eq_true rfl) (Nat.le_of_ble_eq_true rfl) (fd_rcvS ha) hc ?_
  exact k
theorem r103_20 {X : fx_Sc} {M M' : fx_M} {r : Option fx_V} {a : Nat} {x1 x2 x3 s0 s1 : Int} (k : Ev X 103 4 [fx_f a, .inl (x1), .inl ((s0 + s1)), .inl ((x3 + 1))] [] M r M') : Ev X 103 20 [fx_f a, .inl (x1), .inl (x2), .inl (x3)] [.inl (s1), .inl (s0)] M r M' := by
  refine Ev.run 4 fd_e103 (i' := 4) (ls' := [fx_f a, .inl (x1), .inl ((s0 + s1)), .inl ((x3 + 1))]) (st' := []) (M1 := M) rfl ?_
  exact k
theorem r103_22 {X : fx_Sc} {M M' : fx_M} {r : Option fx_V} {a : Nat} {x1 x2 x3 : Int} (k : Ev X 103 4 [fx_f a, .inl (x1), .inl (x2), .inl ((x3 + 1))] [] M r M') : Ev X 103 22 [fx_f a, .inl (x1), .inl (x2), .inl (x3)] [] M r M' := by
  refine Ev.run 2 fd_e103 (i' := 4) (ls' := [fx_f a, .inl (x1), .inl (x2), .inl ((x3 + 1))]) (st' := []) (M1 := M) rfl ?_
  exact k
theorem r103_24 {X : fx_Sc} {M : fx_M} {a : Nat} {x1 x2 x3 : Int} : Ev X 103 24 [fx_f a, .inl (x1), .inl (x2), .inl (x3)] [] M (some (.inl ((fx_div x2 2)))) M := by
  refine Ev.run 2 fd_e103 (i' := 26) (ls' := [fx_f a, .inl (x1), .inl (x2), .inl (x3)]) (st' := [.inl (2), .inl (x2)]) (M1 := M) rfl ?_
  refine Ev.div fd_e103 rfl (by decide) ?_
  exact Ev.ret1 fd_e103 rfl rfl
-- 104: FoldedStrips$Strip.looseEndsIn(I)I
theorem fd_e104 : fd_C 104 = fd_c104 := rfl
theorem r104_0 {X : fx_Sc} {M M' : fx_M} {r : Option fx_V} {a : Nat} {x1 : Int} (k : Ev X 104 4 [fx_f a, .inl (x1), .inl (0), .inl (0)] [] M r M') : Ev X 104 0 [fx_f a, .inl (x1), fx_u, fx_u] [] M r M' := by
  refine Ev.run 4 fd_e104 (i' := 4) (ls' := [fx_f a, .inl (x1), .inl (0), .inl (0)]) (st' := []) (M1 := M) rfl ?_
  exact k
theorem r104_4T {X : fx_Sc} {M M' : fx_M} {r : Option fx_V} {a : Nat} {x1 x2 x3 : Int} (g : (-2147483648 ≤ x3 ∧ x3 < 2147483648)) (h : 24 ≤ x3) (k : Ev X 104 17 [fx_f a, .inl (x1), .inl (x2), .inl (x3)] [] M r M') : Ev X 104 4 [fx_f a, .inl (x1), .inl (x2), .inl (x3)] [] M r M' := by
  refine Ev.run 2 fd_e104 (i' := 6) (ls' := [fx_f a, .inl (x1), .inl (x2), .inl (x3)]) (st' := [.inl (24), .inl (x3)]) (M1 := M) rfl ?_
  refine Ev.icT fd_e104 rfl g (by decide) (decide_eq_true h) ?_
  exact k
theorem r104_4F {X : fx_Sc} {M M' : fx_M} {r : Option fx_V} {a : Nat} {x1 x2 x3 : Int} (g : (-2147483648 ≤ x3 ∧ x3 < 2147483648)) (h : x3 < 24) (k : Ev X 104 7 [fx_f a, .inl (x1), .inl (x2), .inl (x3)] [] M r M') : Ev X 104 4 [fx_f a, .inl (x1), .inl (x2), .inl (x3)] [] M r M' := by
  refine Ev.run 2 fd_e104 (i' := 6) (ls' := [fx_f a, .inl (x1), .inl (x2), .inl (x3)]) (st' := [.inl (24), .inl (x3)]) (M1 := M) rfl ?_
  refine Ev.icF fd_e104 rfl g (by decide) (decide_eq_false (Int.not_le.mpr h)) ?_
  exact k
theorem r104_7 {X : fx_Sc} {M M' : fx_M} {r : Option fx_V} {a : Nat} {x1 x2 x3 z : Int} {M1 : fx_M} (hc : Ev X 3 0 [.inl (x1), .inl (x3)] [] M (some (.inl z)) M1) (k : Ev X 104 11 [fx_f a, .inl (x1), .inl (x2), .inl (x3)] [.inl (z), fx_f a] M1 r M') : Ev X 104 7 [fx_f a, .inl (x1), .inl (x2), .inl (x3)] [] M r M' := by
  refine Ev.run 3 fd_e104 (i' := 10) (ls' := [fx_f a, .inl (x1), .inl (x2), .inl (x3)]) (st' := [.inl (x3), .inl (x1), fx_f a]) (M1 := M) rfl ?_
  refine Ev.callS (vs := [.inl (x1), .inl (x3)]) (rest := [fx_f a]) (r1 := (some (.inl z))) fd_e104 rfl rfl rfl (Nat.le_of_ble_eq_true rfl) (Nat.le_of_ble_eq_true rfl) hc ?_
  exact k
theorem r104_11 {X : fx_Sc} {M M' : fx_M} {r : Option fx_V} {a : Nat} {x1 x2 x3 s1 z : Int} {M1 : fx_M} (ha : fd_isS a) (hc : Ev X 97 0 [fx_f a, .inl (s1), fx_u] [] M (some (.inl z)) M1) (k : Ev X 104 12 [fx_f a, .inl (x1), .inl (x2), .inl (x3)] [.inl (z)] M1 r M') : Ev X 104 11 [fx_f a, .inl (x1), .inl (x2), .inl (x3)] [.inl (s1), fx_f a] M r M' := by
  refine Ev.callV (vs := [fx_f a, .inl (s1)]) (rest := []) (r1 := (some (.inl z))) fd_e104 rfl rfl rfl (Nat.le_of_ble_eq_true rfl) (Nat.le_of_ble_eq_true rfl) (fd_rcvS ha) hc ?_
  exact k
theorem r104_12T {X : fx_Sc} {M M' : fx_M} {r : Option fx_V} {a : Nat} {x1 x2 x3 s0 : Int} (g : (-2147483648 ≤ s0 ∧ s0 < 2147483648)) (h : s0 ≠ 2) (k : Ev X 104 15 [fx_f a, .inl (x1), .inl (x2), .inl (x3)] [] M r M') : Ev X 104 12 [fx_f a, .inl (x1), .inl (x2), .inl (x3)] [.inl (s0)] M r M' := by
  refine Ev.run 1 fd_e104 (i' := 13) (ls' := [fx_f a, .inl (x1), .inl (x2), .inl (x3)]) (st' := [.inl (2), .inl (s0)]) (M1 := M) rfl ?_
  refine Ev.icT fd_e104 rfl g (by decide) (decide_eq_true h) ?_
  exact k
theorem r104_12F {X : fx_Sc} {M M' : fx_M} {r : Option fx_V} {a : Nat} {x1 x2 x3 s0 : Int} (g : (-2147483648 ≤ s0 ∧ s0 < 2147483648)) (h : s0 = 2) (k : Ev X 104 14 [fx_f a, .inl (x1), .inl (x2), .inl (x3)] [] M r M') : Ev X 104 12 [fx_f a, .inl (x1), .inl (x2), .inl (x3)] [.inl (s0)] M r M' := by
  refine Ev.run 1 fd_e104 (i' := 13) (ls' := [fx_f a, .inl (x1), .inl (x2), .inl (x3)]) (st' := [.inl (2), .inl (s0)]) (M1 := M) rfl ?_
  refine Ev.icF fd_e104 rfl g (by decide) (decide_eq_false (not_not_intro h)) ?_
  exact k
theorem r104_14 {X : fx_Sc} {M M' : fx_M} {r : Option fx_V} {a : Nat} {x1 x2 x3 : Int} (k : Ev X 104 4 [fx_f a, .inl (x1), .inl ((x2 + 1)), .inl ((x3 + 1))] [] M r M') : Ev X 104 14 [fx_f a, .inl (x1), .inl (x2), .inl (x3)] [] M r M' := by
  refine Ev.run 3 fd_e104 (i' := 4) (ls' := [fx_f a, .inl (x1), .inl ((x2 + 1)), .inl ((x3 + 1))]) (st' := []) (M1 := M) rfl ?_
  exact k
theorem r104_15 {X : fx_Sc} {M M' : fx_M} {r : Option fx_V} {a : Nat} {x1 x2 x3 : Int} (k : Ev X 104 4 [fx_f a, .inl (x1), .inl (x2), .inl ((x3 + 1))] [] M r M') : Ev X 104 15 [fx_f a, .inl (x1), .inl (x2), .inl (x3)] [] M r M' := by
  refine Ev.run 2 fd_e104 (i' := 4) (ls' := [fx_f a, .inl (x1), .inl (x2), .inl ((x3 + 1))]) (st' := []) (M1 := M) rfl ?_
  exact k
theorem r104_17 {X : fx_Sc} {M : fx_M} {a : Nat} {x1 x2 x3 : Int} : Ev X 104 17 [fx_f a, .inl (x1), .inl (x2), .inl (x3)] [] M (some (.inl (x2))) M := by
  refine Ev.run 1 fd_e104 (i' := 18) (ls' := [fx_f a, .inl (x1), .inl (x2), .inl (x3)]) (st' := [.inl (x2)]) (M1 := M) rfl ?_
  exact Ev.ret1 fd_e104 rfl rfl
-- 105: FoldedStrips$Strip.strokesDown(I)I
theorem fd_e105 : fd_C 105 = fd_c105 := rfl
theorem r105_0 {X : fx_Sc} {M M' : fx_M} {r : Option fx_V} {a : Nat} {x1 : Int} (k : Ev X 105 4 [fx_f a, .inl (x1), .inl (0), .inl (0)] [] M r M') : Ev X 105 0 [fx_f a, .inl (x1), fx_u, fx_u] [] M r M' := by
  refine Ev.run 4 fd_e105 (i' := 4) (ls' := [fx_f a, .inl (x1), .inl (0), .inl (0)]) (st' := []) (M1 := M) rfl ?_
  exact k
theorem r105_4T {X : fx_Sc} {M M' : fx_M} {r : Option fx_V} {a : Nat} {x1 x2 x3 : Int} (g : (-2147483648 ≤ x3 ∧ x3 < 2147483648)) (h : 12 ≤ x3) (k : Ev X 105 17 [fx_f a, .inl (x1), .inl (x2), .inl (x3)] [] M r M') : Ev X 105 4 [fx_f a, .inl (x1), .inl (x2), .inl (x3)] [] M r M' := by
  refine Ev.run 2 fd_e105 (i' := 6) (ls' := [fx_f a, .inl (x1), .inl (x2), .inl (x3)]) (st' := [.inl (12), .inl (x3)]) (M1 := M) rfl ?_
  refine Ev.icT fd_e105 rfl g (by decide) (decide_eq_true h) ?_
  exact k
theorem r105_4F {X : fx_Sc} {M M' : fx_M} {r : Option fx_V} {a : Nat} {x1 x2 x3 : Int} (g : (-2147483648 ≤ x3 ∧ x3 < 2147483648)) (h : x3 < 12) (k : Ev X 105 7 [fx_f a, .inl (x1), .inl (x2), .inl (x3)] [] M r M') : Ev X 105 4 [fx_f a, .inl (x1), .inl (x2), .inl (x3)] [] M r M' := by
  refine Ev.run 2 fd_e105 (i' := 6) (ls' := [fx_f a, .inl (x1), .inl (x2), .inl (x3)]) (st' := [.inl (12), .inl (x3)]) (M1 := M) rfl ?_
  refine Ev.icF fd_e105 rfl g (by decide) (decide_eq_false (Int.not_le.mpr h)) ?_
  exact k
theorem r105_7 {X : fx_Sc} {M M' : fx_M} {r : Option fx_V} {a : Nat} {x1 x2 x3 z : Int} {M1 : fx_M} (hc : Ev X 3 0 [.inl (x1), .inl (x3)] [] M (some (.inl z)) M1) (k : Ev X 105 11 [fx_f a, .inl (x1), .inl (x2), .inl (x3)] [.inl (z), fx_f a] M1 r M') : Ev X 105 7 [fx_f a, .inl (x1), .inl (x2), .inl (x3)] [] M r M' := by
  refine Ev.run 3 fd_e105 (i' := 10) (ls' := [fx_f a, .inl (x1), .inl (x2), .inl (x3)]) (st' := [.inl (x3), .inl (x1), fx_f a]) (M1 := M) rfl ?_
  refine Ev.callS (vs := [.inl (x1), .inl (x3)]) (rest := [fx_f a]) (r1 := (some (.inl z))) fd_e105 rfl rfl rfl (Nat.le_of_ble_eq_true rfl) (Nat.le_of_ble_eq_true rfl) hc ?_
  exact k
theorem r105_11 {X : fx_Sc} {M M' : fx_M} {r : Option fx_V} {a : Nat} {x1 x2 x3 s1 z : Int} {M1 : fx_M} (ha : fd_isS a) (hc : Ev X 84 0 [fx_f a, .inl (s1)] [] M (some (.inl z)) M1) (k : Ev X 105 12 [fx_f a, .inl (x1), .inl (x2), .inl (x3)] [.inl (z)] M1 r M') : Ev X 105 11 [fx_f a, .inl (x1), .inl (x2), .inl (x3)] [.inl (s1), fx_f a] M r M' := by
  refine Ev.callV (vs := [fx_f a, .inl (s1)]) (rest := []) (r1 := (some (.inl z))) fd_e105 rfl rfl rfl (Nat.le_of_ble_eq_true rfl) (Nat.le_of_ble_eq_true rfl) (fd_rcvS ha) hc ?_
  exact k
theorem r105_12T {X : fx_Sc} {M M' : fx_M} {r : Option fx_V} {a : Nat} {x1 x2 x3 s0 : Int} (g : (-2147483648 ≤ s0 ∧ s0 < 2147483648)) (h : s0 < 12) (k : Ev X 105 15 [fx_f a, .inl (x1), .inl (x2), .inl (x3)] [] M r M') : Ev X 105 12 [fx_f a, .inl (x1), .inl (x2), .inl (x3)] [.inl (s0)] M r M' := by
  refine Ev.run 1 fd_e105 (i' := 13) (ls' := [fx_f a, .inl (x1), .inl (x2), .inl (x3)]) (st' := [.inl (12), .inl (s0)]) (M1 := M) rfl ?_
  refine Ev.icT fd_e105 rfl g (by decide) (decide_eq_true h) ?_
  exact k
theorem r105_12F {X : fx_Sc} {M M' : fx_M} {r : Option fx_V} {a : Nat} {x1 x2 x3 s0 : Int} (g : (-2147483648 ≤ s0 ∧ s0 < 2147483648)) (h : 12 ≤ s0) (k : Ev X 105 14 [fx_f a, .inl (x1), .inl (x2), .inl (x3)] [] M r M') : Ev X 105 12 [fx_f a, .inl (x1), .inl (x2), .inl (x3)] [.inl (s0)] M r M' := by
  refine Ev.run 1 fd_e105 (i' := 13) (ls' := [fx_f a, .inl (x1), .inl (x2), .inl (x3)]) (st' := [.inl (12), .inl (s0)]) (M1 := M) rfl ?_
  refine Ev.icF fd_e105 rfl g (by decide) (decide_eq_false (Int.not_lt.mpr h)) ?_
  exact k
theorem r105_14 {X : fx_Sc} {M M' : fx_M} {r : Option fx_V} {a : Nat} {x1 x2 x3 : Int} (k : Ev X 105 4 [fx_f a, .inl (x1), .inl ((x2 + 1)), .inl ((x3 + 1))] [] M r M') : Ev X 105 14 [fx_f a, .inl (x1), .inl (x2), .inl (x3)] [] M r M' := by
  refine Ev.run 3 fd_e105 (i' := 4) (ls' := [fx_f a, .inl (x1), .inl ((x2 + 1)), .inl ((x3 + 1))]) (st' := []) (M1 := M) rfl ?_
  exact k
theorem r105_15 {X : fx_Sc} {M M' : fx_M} {r : Option fx_V} {a : Nat} {x1 x2 x3 : Int} (k : Ev X 105 4 [fx_f a, .inl (x1), .inl (x2), .inl ((x3 + 1))] [] M r M') : Ev X 105 15 [fx_f a, .inl (x1), .inl (x2), .inl (x3)] [] M r M' := by
  refine Ev.run 2 fd_e105 (i' := 4) (ls' := [fx_f a, .inl (x1), .inl (x2), .inl ((x3 + 1))]) (st' := []) (M1 := M) rfl ?_
  exact k
theorem r105_17 {X : fx_Sc} {M : fx_M} {a : Nat} {x1 x2 x3 : Int} : Ev X 105 17 [fx_f a, .inl (x1), .inl (x2), .inl (x3)] [] M (some (.inl (x2))) M := by
  refine Ev.run 1 fd_e105 (i' := 18) (ls' := [fx_f a, .inl (x1), .inl (x2), .inl (x3)]) (st' := [.inl (x2)]) (M1 := M) rfl ?_
  exact Ev.ret1 fd_e105 rfl rfl
-- 106: FoldedStrips$Strip.unmarkedStartsAt(I)I
theorem fd_e106 : fd_C 106 = fd_c106 := rfl
theorem r106_0 {X : fx_Sc} {M M' : fx_M} {r : Option fx_V} {a : Nat} {x1 z : Int} {M1 : fx_M} (ha : fd_isS a) (hc : Ev X 91 0 [fx_f a, .inl (x1)] [] M (some (.inl z)) M1) (k : Ev X 106 3 [fx_f a, .inl (x1)] [.inl (z)] M1 r M') : Ev X 106 0 [fx_f a, .inl (x1)] [] M r M' := by
  refine Ev.run 2 fd_e106 (i' := 2) (ls' := [fx_f a, .inl (x1)]) (st' := [.inl (x1), fx_f a]) (M1 := M) rfl ?_
  refine Ev.callV (vs := [fx_f a, .inl (x1)]) (rest := []) (r1 := (some (.inl z))) fd_e106 rfl rfl rfl (Nat.le_of_ble_eq_true rfl) (Nat.le_of_ble_eq_true rfl) (fd_rcvS ha) hc ?_
  exact k
theorem r106_3 {X : fx_Sc} {M M' : fx_M} {r : Option fx_V} {a : Nat} {x1 s0 z : Int} {M1 : fx_M} (ha : fd_isS a) (hc : Ev X 90 0 [fx_f a, .inl (x1)] [] M (some (.inl z)) M1) (k : Ev X 106 6 [fx_f a, .inl (x1)] [.inl (z), .inl (s0)] M1 r M') : Ev X 106 3 [fx_f a, .inl (x1)] [.inl (s0)] M r M' := by
  refine Ev.run 2 fd_e106 (i' := 5) (ls' := [fx_f a, .inl (x1)]) (st' := [.inl (x1), fx_f a, .inl (s0)]) (M1 := M) rfl ?_
  refine Ev.callV (vs := [fx_f a, .inl (x1)]) (rest := [.inl (s0)]) (r1 := (some (.inl z))) fd_e106 rfl rfl rfl (Nat.le_of_ble_eq_true rfl) (Nat.le_of_ble_eq_true rfl) (fd_rcvS ha) hc ?_
  exact k
theorem r106_6 {X : fx_Sc} {M : fx_M} {a : Nat} {x1 s0 s1 : Int} : Ev X 106 6 [fx_f a, .inl (x1)] [.inl (s1), .inl (s0)] M (some (.inl ((fx_and s0 (fx_xor s1 (-1)))))) M := by
  refine Ev.run 3 fd_e106 (i' := 9) (ls' := [fx_f a, .inl (x1)]) (st' := [.inl ((fx_and s0 (fx_xor s1 (-1))))]) (M1 := M) rfl ?_
  exact Ev.ret1 fd_e106 rfl rfl
-- 107: FoldedStrips$Strip.panelsOf(I)I
theorem fd_e107 : fd_C 107 = fd_c107 := rfl
theorem r107_0 {X : fx_Sc} {M M' : fx_M} {r : Option fx_V} {a : Nat} {x1 : Int} (k : Ev X 107 4 [fx_f a, .inl (x1), .inl (0), .inl (0)] [] M r M') : Ev X 107 0 [fx_f a, .inl (x1), fx_u, fx_u] [] M r M' := by
  refine Ev.run 4 fd_e107 (i' := 4) (ls' := [fx_f a, .inl (x1), .inl (0), .inl (0)]) (st' := []) (M1 := M) rfl ?_
  exact k
theorem r107_4T {X : fx_Sc} {M M' : fx_M} {r : Option fx_V} {a : Nat} {x1 x2 x3 : Int} (g : (-2147483648 ≤ x3 ∧ x3 < 2147483648)) (h : 6 ≤ x3) (k : Ev X 107 21 [fx_f a, .inl (x1), .inl (x2), .inl (x3)] [] M r M') : Ev X 107 4 [fx_f a, .inl (x1), .inl (x2), .inl (x3)] [] M r M' := by
  refine Ev.run 2 fd_e107 (i' := 6) (ls' := [fx_f a, .inl (x1), .inl (x2), .inl (x3)]) (st' := [.inl (6), .inl (x3)]) (M1 := M) rfl ?_
  refine Ev.icT fd_e107 rfl g (by decide) (decide_eq_true h) ?_
  exact k
theorem r107_4F {X : fx_Sc} {M M' : fx_M} {r : Option fx_V} {a : Nat} {x1 x2 x3 : Int} (g : (-2147483648 ≤ x3 ∧ x3 < 2147483648)) (h : x3 < 6) (k : Ev X 107 7 [fx_f a, .inl (x1), .inl (x2), .inl (x3)] [] M r M') : Ev X 107 4 [fx_f a, .inl (x1), .inl (x2), .inl (x3)] [] M r M' := by
  refine Ev.run 2 fd_e107 (i' := 6) (ls' := [fx_f a, .inl (x1), .inl (x2), .inl (x3)]) (st' := [.inl (6), .inl (x3)]) (M1 := M) rfl ?_
  refine Ev.icF fd_e107 rfl g (by decide) (decide_eq_false (Int.not_le.mpr h)) ?_
  exact k
theorem r107_7T {X : fx_Sc} {M M' : fx_M} {r : Option fx_V} {a : Nat} {x1 x2 x3 : Int} (ha : fd_isS a) (g : (0 ≤ x3 ∧ x3 < ((6 : Nat) : Int)) ∧ (-2147483648 ≤ (M (a + 2) (x3).toNat) ∧ (M (a + 2) (x3).toNat) < 2147483648) ∧ (-2147483648 ≤ x1 ∧ x1 < 2147483648)) (h : (M (a + 2) (x3).toNat) ≠ x1) (k : Ev X 107 19 [fx_f a, .inl (x1), .inl (x2), .inl (x3)] [] M r M') : Ev X 107 7 [fx_f a, .inl (x1), .inl (x2), .inl (x3)] [] M r M' := by
  refine Ev.run 1 fd_e107 (i' := 8) (ls' := [fx_f a, .inl (x1), .inl (x2), .inl (x3)]) (st' := [fx_f a]) (M1 := M) rfl ?_
  refine Ev.getr fd_e107 rfl ha.1 rfl ?_
  refine Ev.run 1 fd_e107 (i' := 10) (ls' := [fx_f a, .inl (x1), .inl (x2), .inl (x3)]) (st' := [.inl (x3), fx_f (a + 2)]) (M1 := M) rfl ?_
  refine Ev.iald fd_e107 rfl ha.2.2.1 (by decide) g.1 ?_
  refine Ev.run 1 fd_e107 (i' := 12) (ls' := [fx_f a, .inl (x1), .inl (x2), .inl (x3)]) (st' := [.inl (x1), .inl ((M (a + 2) (x3).toNat))]) (M1 := M) rfl ?_
  refine Ev.icT fd_e107 rfl g.2.1 g.2.2 (decide_eq_true h) ?_
  exact k
theorem r107_7F {X : fx_Sc} {M M' : fx_M} {r : Option fx_V} {a : Nat} {x1 x2 x3 : Int} (ha : fd_isS a) (g : (0 ≤ x3 ∧ x3 < ((6 : Nat) : Int)) ∧ (-2147483648 ≤ (M (a + 2) (x3).toNat) ∧ (M (a + 2) (x3).toNat) < 2147483648) ∧ (-2147483648 ≤ x1 ∧ x1 < 2147483648)) (h : (M (a + 2) (x3).toNat) = x1) (k : Ev X 107 13 [fx_f a, .inl (x1), .inl (x2), .inl (x3)] [] M r M') : Ev X 107 7 [fx_f a, .inl (x1), .inl (x2), .inl (x3)] [] M r M' := by
  refine Ev.run 1 fd_e107 (i' := 8) (ls' := [fx_f a, .inl (x1), .inl (x2), .inl (x3)]) (st' := [fx_f a]) (M1 := M) rfl ?_
  refine Ev.getr fd_e107 rfl ha.1 rfl ?_
  refine Ev.run 1 fd_e107 (i' := 10) (ls' := [fx_f a, .inl (x1), .inl (x2), .inl (x3)]) (st' := [.inl (x3), fx_f (a + 2)]) (M1 := M) rfl ?_
  refine Ev.iald fd_e107 rfl ha.2.2.1 (by decide) g.1 ?_
  refine Ev.run 1 fd_e107 (i' := 12) (ls' := [fx_f a, .inl (x1), .inl (x2), .inl (x3)]) (st' := [.inl (x1), .inl ((M (a + 2) (x3).toNat))]) (M1 := M) rfl ?_
  refine Ev.icF fd_e107 rfl g.2.1 g.2.2 (decide_eq_false (not_not_intro h)) ?_
  exact k
theorem r107_13 {X : fx_Sc} {M M' : fx_M} {r : Option fx_V} {a : Nat} {x1 x2 x3 : Int} (k : Ev X 107 4 [fx_f a, .inl (x1), .inl ((fx_or x2 (fx_shl 1 x3))), .inl ((x3 + 1))] [] M r M') : Ev X 107 13 [fx_f a, .inl (x1), .inl (x2), .inl (x3)] [] M r M' := by
  refine Ev.run 8 fd_e107 (i' := 4) (ls' := [fx_f a, .inl (x1), .inl ((fx_or x2 (fx_shl 1 x3))), .inl ((x3 + 1))]) (st' := []) (M1 := M) rfl ?_
  exact k
theorem r107_19 {X : fx_Sc} {M M' : fx_M} {r : Option fx_V} {a : Nat} {x1 x2 x3 : Int} (k : Ev X 107 4 [fx_f a, .inl (x1), .inl (x2), .inl ((x3 + 1))] [] M r M') : Ev X 107 19 [fx_f a, .inl (x1), .inl (x2), .inl (x3)] [] M r M' := by
  refine Ev.run 2 fd_e107 (i' := 4) (ls' := [fx_f a, .inl (x1), .inl (x2), .inl ((x3 + 1))]) (st' := []) (M1 := M) rfl ?_
  exact k
theorem r107_21 {X : fx_Sc} {M : fx_M} {a : Nat} {x1 x2 x3 : Int} : Ev X 107 21 [fx_f a, .inl (x1), .inl (x2), .inl (x3)] [] M (some (.inl (x2))) M := by
  refine Ev.run 1 fd_e107 (i' := 22) (ls' := [fx_f a, .inl (x1), .inl (x2), .inl (x3)]) (st' := [.inl (x2)]) (M1 := M) rfl ?_
  exact Ev.ret1 fd_e107 rfl rfl
-- 108: FoldedStrips$Strip.strokesOf(I)I
theorem fd_e108 : fd_C 108 = fd_c108 := rfl
theorem r108_0 {X : fx_Sc} {M M' : fx_M} {r : Option fx_V} {a : Nat} {x1 : Int} (k : Ev X 108 4 [fx_f a, .inl (x1), .inl (0), .inl (0)] [] M r M') : Ev X 108 0 [fx_f a, .inl (x1), fx_u, fx_u] [] M r M' := by
  refine Ev.run 4 fd_e108 (i' := 4) (ls' := [fx_f a, .inl (x1), .inl (0), .inl (0)]) (st' := []) (M1 := M) rfl ?_
  exact k
theorem r108_4T {X : fx_Sc} {M M' : fx_M} {r : Option fx_V} {a : Nat} {x1 x2 x3 : Int} (g : (-2147483648 ≤ x3 ∧ x3 < 2147483648)) (h : 6 ≤ x3) (k : Ev X 108 21 [fx_f a, .inl (x1), .inl (x2), .inl (x3)] [] M r M') : Ev X 108 4 [fx_f a, .inl (x1), .inl (x2), .inl (x3)] [] M r M' := by
  refine Ev.run 2 fd_e108 (i' := 6) (ls' := [fx_f a, .inl (x1), .inl (x2), .inl (x3)]) (st' := [.inl (6), .inl (x3)]) (M1 := M) rfl ?_
  refine Ev.icT fd_e108 rfl g (by decide) (decide_eq_true h) ?_
  exact k
theorem r108_4F {X : fx_Sc} {M M' : fx_M} {r : Option fx_V} {a : Nat} {x1 x2 x3 : Int} (g : (-2147483648 ≤ x3 ∧ x3 < 2147483648)) (h : x3 < 6) (k : Ev X 108 7 [fx_f a, .inl (x1), .inl (x2), .inl (x3)] [] M r M') : Ev X 108 4 [fx_f a, .inl (x1), .inl (x2), .inl (x3)] [] M r M' := by
  refine Ev.run 2 fd_e108 (i' := 6) (ls' := [fx_f a, .inl (x1), .inl (x2), .inl (x3)]) (st' := [.inl (6), .inl (x3)]) (M1 := M) rfl ?_
  refine Ev.icF fd_e108 rfl g (by decide) (decide_eq_false (Int.not_le.mpr h)) ?_
  exact k
theorem r108_7T {X : fx_Sc} {M M' : fx_M} {r : Option fx_V} {a : Nat} {x1 x2 x3 : Int} (ha : fd_isS a) (g : (0 ≤ x3 ∧ x3 < ((6 : Nat) : Int)) ∧ (-2147483648 ≤ (M (a + 2) (x3).toNat) ∧ (M (a + 2) (x3).toNat) < 2147483648) ∧ (-2147483648 ≤ x1 ∧ x1 < 2147483648)) (h : (M (a + 2) (x3).toNat) ≠ x1) (k : Ev X 108 19 [fx_f a, .inl (x1), .inl (x2), .inl (x3)] [] M r M') : Ev X 108 7 [fx_f a, .inl (x1), .inl (x2), .inl (x3)] [] M r M' := by
  refine Ev.run 1 fd_e108 (i' := 8) (ls' := [fx_f a, .inl (x1), .inl (x2), .inl (x3)]) (st' := [fx_f a]) (M1 := M) rfl ?_
  refine Ev.getr fd_e108 rfl ha.1 rfl ?_
  refine Ev.run 1 fd_e108 (i' := 10) (ls' := [fx_f a, .inl (x1), .inl (x2), .inl (x3)]) (st' := [.inl (x3), fx_f (a + 2)]) (M1 := M) rfl ?_
  refine Ev.iald fd_e108 rfl ha.2.2.1 (by decide) g.1 ?_
  refine Ev.run 1 fd_e108 (i' := 12) (ls' := [fx_f a, .inl (x1), .inl (x2), .inl (x3)]) (st' := [.inl (x1), .inl ((M (a + 2) (x3).toNat))]) (M1 := M) rfl ?_
  refine Ev.icT fd_e108 rfl g.2.1 g.2.2 (decide_eq_true h) ?_
  exact k
theorem r108_7F {X : fx_Sc} {M M' : fx_M} {r : Option fx_V} {a : Nat} {x1 x2 x3 : Int} (ha : fd_isS a) (g : (0 ≤ x3 ∧ x3 < ((6 : Nat) : Int)) ∧ (-2147483648 ≤ (M (a + 2) (x3).toNat) ∧ (M (a + 2) (x3).toNat) < 2147483648) ∧ (-2147483648 ≤ x1 ∧ x1 < 2147483648)) (h : (M (a + 2) (x3).toNat) = x1) (k : Ev X 108 13 [fx_f a, .inl (x1), .inl (x2), .inl (x3)] [] M r M') : Ev X 108 7 [fx_f a, .inl (x1), .inl (x2), .inl (x3)] [] M r M' := by
  refine Ev.run 1 fd_e108 (i' := 8) (ls' := [fx_f a, .inl (x1), .inl (x2), .inl (x3)]) (st' := [fx_f a]) (M1 := M) rfl ?_
  refine Ev.getr fd_e108 rfl ha.1 rfl ?_
  refine Ev.run 1 fd_e108 (i' := 10) (ls' := [fx_f a, .inl (x1), .inl (x2), .inl (x3)]) (st' := [.inl (x3), fx_f (a + 2)]) (M1 := M) rfl ?_
  refine Ev.iald fd_e108 rfl ha.2.2.1 (by decide) g.1 ?_
  refine Ev.run 1 fd_e108 (i' := 12) (ls' := [fx_f a, .inl (x1), .inl (x2), .inl (x3)]) (st' := [.inl (x1), .inl ((M (a + 2) (x3).toNat))]) (M1 := M) rfl ?_
  refine Ev.icF fd_e108 rfl g.2.1 g.2.2 (decide_eq_false (not_not_intro h)) ?_
  exact k
theorem r108_13 {X : fx_Sc} {M M' : fx_M} {r : Option fx_V} {a : Nat} {x1 x2 x3 z : Int} {M1 : fx_M} (ha : fd_isS a) (hc : Ev X 81 0 [fx_f a, .inl (x3), fx_u] [] M (some (.inl z)) M1) (k : Ev X 108 17 [fx_f a, .inl (x1), .inl (x2), .inl (x3)] [.inl (z), .inl (x2)] M1 r M') : Ev X 108 13 [fx_f a, .inl (x1), .inl (x2), .inl (x3)] [] M r M' := by
  refine Ev.run 3 fd_e108 (i' := 16) (ls' := [fx_f a, .inl (x1), .inl (x2), .inl (x3)]) (st' := [.inl (x3), fx_f a, .inl (x2)]) (M1 := M) rfl ?_
  refine Ev.callV (vs := [fx_f a, .inl (x3)]) (rest := [.inl (x2)]) (r1 := (some (.inl z))) fd_e108 rfl rfl rfl (Nat.le_of_ble_eq_true rfl) (Nat.le_of_ble_eq_true rfl) (fd_rcvS ha) hc ?_
  exact k
theorem r108_17 {X : fx_Sc} {M M' : fx_M} {r : Option fx_V} {a : Nat} {x1 x2 x3 s0 s1 : Int} (k : Ev X 108 4 [fx_f a, .inl (x1), .inl ((s0 + s1)), .inl ((x3 + 1))] [] M r M') : Ev X 108 17 [fx_f a, .inl (x1), .inl (x2), .inl (x3)] [.inl (s1), .inl (s0)] M r M' := by
  refine Ev.run 4 fd_e108 (i' := 4) (ls' := [fx_f a, .inl (x1), .inl ((s0 + s1)), .inl ((x3 + 1))]) (st' := []) (M1 := M) rfl ?_
  exact k
theorem r108_19 {X : fx_Sc} {M M' : fx_M} {r : Option fx_V} {a : Nat} {x1 x2 x3 : Int} (k : Ev X 108 4 [fx_f a, .inl (x1), .inl (x2), .inl ((x3 + 1))] [] M r M') : Ev X 108 19 [fx_f a, .inl (x1), .inl (x2), .inl (x3)] [] M r M' := by
  refine Ev.run 2 fd_e108 (i' := 4) (ls' := [fx_f a, .inl (x1), .inl (x2), .inl ((x3 + 1))]) (st' := []) (M1 := M) rfl ?_
  exact k
theorem r108_21 {X : fx_Sc} {M : fx_M} {a : Nat} {x1 x2 x3 : Int} : Ev X 108 21 [fx_f a, .inl (x1), .inl (x2), .inl (x3)] [] M (some (.inl (x2))) M := by
  refine Ev.run 1 fd_e108 (i' := 22) (ls' := [fx_f a, .inl (x1), .inl (x2), .inl (x3)]) (st' := [.inl (x2)]) (M1 := M) rfl ?_
  exact Ev.ret1 fd_e108 rfl rfl
-- 109: FoldedStrips$Strip.missedMarksOf(I)I
theorem fd_e109 : fd_C 109 = fd_c109 := rfl
theorem r109_0 {X : fx_Sc} {M M' : fx_M} {r : Option fx_V} {a : Nat} {x1 : Int} (k : Ev X 109 4 [fx_f a, .inl (x1), .inl (0), .inl (0)] [] M r M') : Ev X 109 0 [fx_f a, .inl (x1), fx_u, fx_u] [] M r M' := by
  refine Ev.run 4 fd_e109 (i' := 4) (ls' := [fx_f a, .inl (x1), .inl (0), .inl (0)]) (st' := []) (M1 := M) rfl ?_
  exact k
theorem r109_4T {X : fx_Sc} {M M' : fx_M} {r : Option fx_V} {a : Nat} {x1 x2 x3 : Int} (g : (-2147483648 ≤ x3 ∧ x3 < 2147483648)) (h : 5 ≤ x3) (k : Ev X 109 23 [fx_f a, .inl (x1), .inl (x2), .inl (x3)] [] M r M') : Ev X 109 4 [fx_f a, .inl (x1), .inl (x2), .inl (x3)] [] M r M' := by
  refine Ev.run 2 fd_e109 (i' := 6) (ls' := [fx_f a, .inl (x1), .inl (x2), .inl (x3)]) (st' := [.inl (5), .inl (x3)]) (M1 := M) rfl ?_
  refine Ev.icT fd_e109 rfl g (by decide) (decide_eq_true h) ?_
  exact k
theorem r109_4F {X : fx_Sc} {M M' : fx_M} {r : Option fx_V} {a : Nat} {x1 x2 x3 : Int} (g : (-2147483648 ≤ x3 ∧ x3 < 2147483648)) (h : x3 < 5) (k : Ev X 109 7 [fx_f a, .inl (x1), .inl (x2), .inl (x3)] [] M r M') : Ev X 109 4 [fx_f a, .inl (x1), .inl (x2), .inl (x3)] [] M r M' := by
  refine Ev.run 2 fd_e109 (i' := 6) (ls' := [fx_f a, .inl (x1), .inl (x2), .inl (x3)]) (st' := [.inl (5), .inl (x3)]) (M1 := M) rfl ?_
  refine Ev.icF fd_e109 rfl g (by decide) (decide_eq_false (Int.not_le.mpr h)) ?_
  exact k
theorem r109_7 {X : fx_Sc} {M M' : fx_M} {r : Option fx_V} {a : Nat} {x1 x2 x3 z : Int} {M1 : fx_M} (ha : fd_isS a) (hc : Ev X 99 0 [fx_f a, .inl ((x3 + 1))] [] M (some (.inl z)) M1) (k : Ev X 109 12 [fx_f a, .inl (x1), .inl (x2), .inl (x3)] [.inl (z)] M1 r M') : Ev X 109 7 [fx_f a, .inl (x1), .inl (x2), .inl (x3)] [] M r M' := by
  refine Ev.run 4 fd_e109 (i' := 11) (ls' := [fx_f a, .inl (x1), .inl (x2), .inl (x3)]) (st' := [.inl ((x3 + 1)), fx_f a]) (M1 := M) rfl ?_
  refine Ev.callV (vs := [fx_f a, .inl ((x3 + 1))]) (rest := []) (r1 := (some (.inl z))) fd_e109 rfl rfl rfl (Nat.le_of_ble_eq_true rfl) (Nat.le_of_ble_eq_true rfl) (fd_rcvS ha) hc ?_
  exact k
theorem r109_12T {X : fx_Sc} {M M' : fx_M} {r : Option fx_V} {a : Nat} {x1 x2 x3 s0 : Int} (g : (-2147483648 ≤ s0 ∧ s0 < 2147483648) ∧ (-2147483648 ≤ x1 ∧ x1 < 2147483648)) (h : s0 ≠ x1) (k : Ev X 109 21 [fx_f a, .inl (x1), .inl (x2), .inl (x3)] [] M r M') : Ev X 109 12 [fx_f a, .inl (x1), .inl (x2), .inl (x3)] [.inl (s0)] M r M' := by
  refine Ev.run 1 fd_e109 (i' := 13) (ls' := [fx_f a, .inl (x1), .inl (x2), .inl (x3)]) (st' := [.inl (x1), .inl (s0)]) (M1 := M) rfl ?_
  refine Ev.icT fd_e109 rfl g.1 g.2 (decide_eq_true h) ?_
  exact k
theorem r109_12F {X : fx_Sc} {M M' : fx_M} {r : Option fx_V} {a : Nat} {x1 x2 x3 s0 : Int} (g : (-2147483648 ≤ s0 ∧ s0 < 2147483648) ∧ (-2147483648 ≤ x1 ∧ x1 < 2147483648)) (h : s0 = x1) (k : Ev X 109 14 [fx_f a, .inl (x1), .inl (x2), .inl (x3)] [] M r M') : Ev X 109 12 [fx_f a, .inl (x1), .inl (x2), .inl (x3)] [.inl (s0)] M r M' := by
  refine Ev.run 1 fd_e109 (i' := 13) (ls' := [fx_f a, .inl (x1), .inl (x2), .inl (x3)]) (st' := [.inl (x1), .inl (s0)]) (M1 := M) rfl ?_
  refine Ev.icF fd_e109 rfl g.1 g.2 (decide_eq_false (not_not_intro h)) ?_
  exact k
theorem r109_14 {X : fx_Sc} {M M' : fx_M} {r : Option fx_V} {a : Nat} {x1 x2 x3 z : Int} {M1 : fx_M} (ha : fd_isS a) (hc : Ev X 96 0 [fx_f a, .inl (x3)] [] M (some (.inl z)) M1) (k : Ev X 109 18 [fx_f a, .inl (x1), .inl (x2), .inl (x3)] [.inl (z), .inl (x2)] M1 r M') : Ev X 109 14 [fx_f a, .inl (x1), .inl (x2), .inl (x3)] [] M r M' := by
  refine Ev.run 3 fd_e109 (i' := 17) (ls' := [fx_f a, .inl (x1), .inl (x2), .inl (x3)]) (st' := [.inl (x3), fx_f a, .inl (x2)]) (M1 := M) rfl ?_
  refine Ev.callV (vs := [fx_f a, .inl (x3)]) (rest := [.inl (x2)]) (r1 := (some (.inl z))) fd_e109 rfl rfl rfl (Nat.le_of_ble_eq_true rfl) (Nat.le_of_ble_eq_true rfl) (fd_rcvS ha) hc ?_
  exact k
theorem r109_18 {X : fx_Sc} {M M' : fx_M} {r : Option fx_V} {a : Nat} {x1 x2 x3 s0 s1 z : Int} {M1 : fx_M} (hc : Ev X 182 0 [.inl (s1)] [] M (some (.inl z)) M1) (k : Ev X 109 19 [fx_f a, .inl (x1), .inl (x2), .inl (x3)] [.inl (z), .inl (s0)] M1 r M') : Ev X 109 18 [fx_f a, .inl (x1), .inl (x2), .inl (x3)] [.inl (s1), .inl (s0)] M r M' := by
  refine Ev.callS (vs := [.inl (s1)]) (rest := [.inl (s0)]) (r1 := (some (.inl z))) fd_e109 rfl rfl rfl (Nat.le_of_ble_eq_true rfl) (Nat.le_of_ble_eq_true rfl) hc ?_
  exact k
theorem r109_19 {X : fx_Sc} {M M' : fx_M} {r : Option fx_V} {a : Nat} {x1 x2 x3 s0 s1 : Int} (k : Ev X 109 4 [fx_f a, .inl (x1), .inl ((s0 + s1)), .inl ((x3 + 1))] [] M r M') : Ev X 109 19 [fx_f a, .inl (x1), .inl (x2), .inl (x3)] [.inl (s1), .inl (s0)] M r M' := by
  refine Ev.run 4 fd_e109 (i' := 4) (ls' := [fx_f a, .inl (x1), .inl ((s0 + s1)), .inl ((x3 + 1))]) (st' := []) (M1 := M) rfl ?_
  exact k
theorem r109_21 {X : fx_Sc} {M M' : fx_M} {r : Option fx_V} {a : Nat} {x1 x2 x3 : Int} (k : Ev X 109 4 [fx_f a, .inl (x1), .inl (x2), .inl ((x3 + 1))] [] M r M') : Ev X 109 21 [fx_f a, .inl (x1), .inl (x2), .inl (x3)] [] M r M' := by
  refine Ev.run 2 fd_e109 (i' := 4) (ls' := [fx_f a, .inl (x1), .inl (x2), .inl ((x3 + 1))]) (st' := []) (M1 := M) rfl ?_
  exact k
theorem r109_23 {X : fx_Sc} {M : fx_M} {a : Nat} {x1 x2 x3 : Int} : Ev X 109 23 [fx_f a, .inl (x1), .inl (x2), .inl (x3)] [] M (some (.inl (x2))) M := by
  refine Ev.run 1 fd_e109 (i' := 24) (ls' := [fx_f a, .inl (x1), .inl (x2), .inl (x3)]) (st' := [.inl (x2)]) (M1 := M) rfl ?_
  exact Ev.ret1 fd_e109 rfl rfl
-- 110: FoldedStrips$Strip.unmarkedStartsOf(I)I
theorem fd_e110 : fd_C 110 = fd_c110 := rfl
theorem r110_0 {X : fx_Sc} {M M' : fx_M} {r : Option fx_V} {a : Nat} {x1 : Int} (k : Ev X 110 4 [fx_f a, .inl (x1), .inl (0), .inl (0)] [] M r M') : Ev X 110 0 [fx_f a, .inl (x1), fx_u, fx_u] [] M r M' := by
  refine Ev.run 4 fd_e110 (i' := 4) (ls' := [fx_f a, .inl (x1), .inl (0), .inl (0)]) (st' := []) (M1 := M) rfl ?_
  exact k
theorem r110_4T {X : fx_Sc} {M M' : fx_M} {r : Option fx_V} {a : Nat} {x1 x2 x3 : Int} (g : (-2147483648 ≤ x3 ∧ x3 < 2147483648)) (h : 5 ≤ x3) (k : Ev X 110 23 [fx_f a, .inl (x1), .inl (x2), .inl (x3)] [] M r M') : Ev X 110 4 [fx_f a, .inl (x1), .inl (x2), .inl (x3)] [] M r M' := by
  refine Ev.run 2 fd_e110 (i' := 6) (ls' := [fx_f a, .inl (x1), .inl (x2), .inl (x3)]) (st' := [.inl (5), .inl (x3)]) (M1 := M) rfl ?_
  refine Ev.icT fd_e110 rfl g (by decide) (decide_eq_true h) ?_
  exact k
theorem r110_4F {X : fx_Sc} {M M' : fx_M} {r : Option fx_V} {a : Nat} {x1 x2 x3 : Int} (g : (-2147483648 ≤ x3 ∧ x3 < 2147483648)) (h : x3 < 5) (k : Ev X 110 7 [fx_f a, .inl (x1), .inl (x2), .inl (x3)] [] M r M') : Ev X 110 4 [fx_f a, .inl (x1), .inl (x2), .inl (x3)] [] M r M' := by
  refine Ev.run 2 fd_e110 (i' := 6) (ls' := [fx_f a, .inl (x1), .inl (x2), .inl (x3)]) (st' := [.inl (5), .inl (x3)]) (M1 := M) rfl ?_
  refine Ev.icF fd_e110 rfl g (by decide) (decide_eq_false (Int.not_le.mpr h)) ?_
  exact k
theorem r110_7 {X : fx_Sc} {M M' : fx_M} {r : Option fx_V} {a : Nat} {x1 x2 x3 z : Int} {M1 : fx_M} (ha : fd_isS a) (hc : Ev X 99 0 [fx_f a, .inl ((x3 + 1))] [] M (some (.inl z)) M1) (k : Ev X 110 12 [fx_f a, .inl (x1), .inl (x2), .inl (x3)] [.inl (z)] M1 r M') : Ev X 110 7 [fx_f a, .inl (x1), .inl (x2), .inl (x3)] [] M r M' := by
  refine Ev.run 4 fd_e110 (i' := 11) (ls' := [fx_f a, .inl (x1), .inl (x2), .inl (x3)]) (st' := [.inl ((x3 + 1)), fx_f a]) (M1 := M) rfl ?_
  refine Ev.callV (vs := [fx_f a, .inl ((x3 + 1))]) (rest := []) (r1 := (some (.inl z))) fd_e110 rfl rfl rfl (Nat.le_of_ble_eq_true rfl) (Nat.le_of_ble_eq_true rfl) (fd_rcvS ha) hc ?_
  exact k
theorem r110_12T {X : fx_Sc} {M M' : fx_M} {r : Option fx_V} {a : Nat} {x1 x2 x3 s0 : Int} (g : (-2147483648 ≤ s0 ∧ s0 < 2147483648) ∧ (-2147483648 ≤ x1 ∧ x1 < 2147483648)) (h : s0 ≠ x1) (k : Ev X 110 21 [fx_f a, .inl (x1), .inl (x2), .inl (x3)] [] M r M') : Ev X 110 12 [fx_f a, .inl (x1), .inl (x2), .inl (x3)] [.inl (s0)] M r M' := by
  refine Ev.run 1 fd_e110 (i' := 13) (ls' := [fx_f a, .inl (x1), .inl (x2), .inl (x3)]) (st' := [.inl (x1), .inl (s0)]) (M1 := M) rfl ?_
  refine Ev.icT fd_e110 rfl g.1 g.2 (decide_eq_true h) ?_
  exact k
theorem r110_12F {X : fx_Sc} {M M' : fx_M} {r : Option fx_V} {a : Nat} {x1 x2 x3 s0 : Int} (g : (-2147483648 ≤ s0 ∧ s0 < 2147483648) ∧ (-2147483648 ≤ x1 ∧ x1 < 2147483648)) (h : s0 = x1) (k : Ev X 110 14 [fx_f a, .inl (x1), .inl (x2), .inl (x3)] [] M r M') : Ev X 110 12 [fx_f a, .inl (x1), .inl (x2), .inl (x3)] [.inl (s0)] M r M' := by
  refine Ev.run 1 fd_e110 (i' := 13) (ls' := [fx_f a, .inl (x1), .inl (x2), .inl (x3)]) (st' := [.inl (x1), .inl (s0)]) (M1 := M) rfl ?_
  refine Ev.icF fd_e110 rfl g.1 g.2 (decide_eq_false (not_not_intro h)) ?_
  exact k
theorem r110_14 {X : fx_Sc} {M M' : fx_M} {r : Option fx_V} {a : Nat} {x1 x2 x3 z : Int} {M1 : fx_M} (ha : fd_isS a) (hc : Ev X 106 0 [fx_f a, .inl (x3)] [] M (some (.inl z)) M1) (k : Ev X 110 18 [fx_f a, .inl (x1), .inl (x2), .inl (x3)] [.inl (z), .inl (x2)] M1 r M') : Ev X 110 14 [fx_f a, .inl (x1), .inl (x2), .inl (x3)] [] M r M' := by
  refine Ev.run 3 fd_e110 (i' := 17) (ls' := [fx_f a, .inl (x1), .inl (x2), .inl (x3)]) (st' := [.inl (x3), fx_f a, .inl (x2)]) (M1 := M) rfl ?_
  refine Ev.callV (vs := [fx_f a, .inl (x3)]) (rest := [.inl (x2)]) (r1 := (some (.inl z))) fd_e110 rfl rfl rfl (Nat.le_of_ble_eq_true rfl) (Nat.le_of_ble_eq_true rfl) (fd_rcvS ha) hc ?_
  exact k
theorem r110_18 {X : fx_Sc} {M M' : fx_M} {r : Option fx_V} {a : Nat} {x1 x2 x3 s0 s1 z : Int} {M1 : fx_M} (hc : Ev X 182 0 [.inl (s1)] [] M (some (.inl z)) M1) (k : Ev X 110 19 [fx_f a, .inl (x1), .inl (x2), .inl (x3)] [.inl (z), .inl (s0)] M1 r M') : Ev X 110 18 [fx_f a, .inl (x1), .inl (x2), .inl (x3)] [.inl (s1), .inl (s0)] M r M' := by
  refine Ev.callS (vs := [.inl (s1)]) (rest := [.inl (s0)]) (r1 := (some (.inl z))) fd_e110 rfl rfl rfl (Nat.le_of_ble_eq_true rfl) (Nat.le_of_ble_eq_true rfl) hc ?_
  exact k
theorem r110_19 {X : fx_Sc} {M M' : fx_M} {r : Option fx_V} {a : Nat} {x1 x2 x3 s0 s1 : Int} (k : Ev X 110 4 [fx_f a, .inl (x1), .inl ((s0 + s1)), .inl ((x3 + 1))] [] M r M') : Ev X 110 19 [fx_f a, .inl (x1), .inl (x2), .inl (x3)] [.inl (s1), .inl (s0)] M r M' := by
  refine Ev.run 4 fd_e110 (i' := 4) (ls' := [fx_f a, .inl (x1), .inl ((s0 + s1)), .inl ((x3 + 1))]) (st' := []) (M1 := M) rfl ?_
  exact k
theorem r110_21 {X : fx_Sc} {M M' : fx_M} {r : Option fx_V} {a : Nat} {x1 x2 x3 : Int} (k : Ev X 110 4 [fx_f a, .inl (x1), .inl (x2), .inl ((x3 + 1))] [] M r M') : Ev X 110 21 [fx_f a, .inl (x1), .inl (x2), .inl (x3)] [] M r M' := by
  refine Ev.run 2 fd_e110 (i' := 4) (ls' := [fx_f a, .inl (x1), .inl (x2), .inl ((x3 + 1))]) (st' := []) (M1 := M) rfl ?_
  exact k
theorem r110_23 {X : fx_Sc} {M : fx_M} {a : Nat} {x1 x2 x3 : Int} : Ev X 110 23 [fx_f a, .inl (x1), .inl (x2), .inl (x3)] [] M (some (.inl (x2))) M := by
  refine Ev.run 1 fd_e110 (i' := 24) (ls' := [fx_f a, .inl (x1), .inl (x2), .inl (x3)]) (st' := [.inl (x2)]) (M1 := M) rfl ?_
  exact Ev.ret1 fd_e110 rfl rfl
-- 111: FoldedStrips$Strip.strokes()I
theorem fd_e111 : fd_C 111 = fd_c111 := rfl
theorem r111_0 {X : fx_Sc} {M M' : fx_M} {r : Option fx_V} {a : Nat} (k : Ev X 111 4 [fx_f a, .inl (0), .inl (0)] [] M r M') : Ev X 111 0 [fx_f a, fx_u, fx_u] [] M r M' := by
  refine Ev.run 4 fd_e111 (i' := 4) (ls' := [fx_f a, .inl (0), .inl (0)]) (st' := []) (M1 := M) rfl ?_
  exact k
theorem r111_4T {X : fx_Sc} {M M' : fx_M} {r : Option fx_V} {a : Nat} {x1 x2 : Int} (g : (-2147483648 ≤ x2 ∧ x2 < 2147483648)) (h : 6 ≤ x2) (k : Ev X 111 15 [fx_f a, .inl (x1), .inl (x2)] [] M r M') : Ev X 111 4 [fx_f a, .inl (x1), .inl (x2)] [] M r M' := by
  refine Ev.run 2 fd_e111 (i' := 6) (ls' := [fx_f a, .inl (x1), .inl (x2)]) (st' := [.inl (6), .inl (x2)]) (M1 := M) rfl ?_
  refine Ev.icT fd_e111 rfl g (by decide) (decide_eq_true h) ?_
  exact k
theorem r111_4F {X : fx_Sc} {M M' : fx_M} {r : Option fx_V} {a : Nat} {x1 x2 : Int} (g : (-2147483648 ≤ x2 ∧ x2 < 2147483648)) (h : x2 < 6) (k : Ev X 111 7 [fx_f a, .inl (x1), .inl (x2)] [] M r M') : Ev X 111 4 [fx_f a, .inl (x1), .inl (x2)] [] M r M' := by
  refine Ev.run 2 fd_e111 (i' := 6) (ls' := [fx_f a, .inl (x1), .inl (x2)]) (st' := [.inl (6), .inl (x2)]) (M1 := M) rfl ?_
  refine Ev.icF fd_e111 rfl g (by decide) (decide_eq_false (Int.not_le.mpr h)) ?_
  exact k
theorem r111_7 {X : fx_Sc} {M M' : fx_M} {r : Option fx_V} {a : Nat} {x1 x2 z : Int} {M1 : fx_M} (ha : fd_isS a) (hc : Ev X 81 0 [fx_f a, .inl (x2), fx_u] [] M (some (.inl z)) M1) (k : Ev X 111 11 [fx_f a, .inl (x1), .inl (x2)] [.inl (z), .inl (x1)] M1 r M') : Ev X 111 7 [fx_f a, .inl (x1), .inl (x2)] [] M r M' := by
  refine Ev.run 3 fd_e111 (i' := 10) (ls' := [fx_f a, .inl (x1), .inl (x2)]) (st' := [.inl (x2), fx_f a, .inl (x1)]) (M1 := M) rfl ?_
  refine Ev.callV (vs := [fx_f a, .inl (x2)]) (rest := [.inl (x1)]) (r1 := (some (.inl z))) fd_e111 rfl rfl rfl (Nat.le_of_ble_eq_true rfl) (Nat.le_of_ble_eq_true rfl) (fd_rcvS ha) hc ?_
  exact k
theorem r111_11 {X : fx_Sc} {M M' : fx_M} {r : Option fx_V} {a : Nat} {x1 x2 s0 s1 : Int} (k : Ev X 111 4 [fx_f a, .inl ((s0 + s1)), .inl ((x2 + 1))] [] M r M') : Ev X 111 11 [fx_f a, .inl (x1), .inl (x2)] [.inl (s1), .inl (s0)] M r M' := by
  refine Ev.run 4 fd_e111 (i' := 4) (ls' := [fx_f a, .inl ((s0 + s1)), .inl ((x2 + 1))]) (st' := []) (M1 := M) rfl ?_
  exact k
theorem r111_15 {X : fx_Sc} {M : fx_M} {a : Nat} {x1 x2 : Int} : Ev X 111 15 [fx_f a, .inl (x1), .inl (x2)] [] M (some (.inl (x1))) M := by
  refine Ev.run 1 fd_e111 (i' := 16) (ls' := [fx_f a, .inl (x1), .inl (x2)]) (st' := [.inl (x1)]) (M1 := M) rfl ?_
  exact Ev.ret1 fd_e111 rfl rfl
-- 112: FoldedStrips$Strip.freeEnds()I
theorem fd_e112 : fd_C 112 = fd_c112 := rfl
theorem r112_0 {X : fx_Sc} {M M' : fx_M} {r : Option fx_V} {a : Nat} {z : Int} {M1 : fx_M} (ha : fd_isS a) (hc : Ev X 82 0 [fx_f a, .inl (0), fx_u, fx_u] [] M (some (.inl z)) M1) (k : Ev X 112 3 [fx_f a] [.inl (z)] M1 r M') : Ev X 112 0 [fx_f a] [] M r M' := by
  refine Ev.run 2 fd_e112 (i' := 2) (ls' := [fx_f a]) (st' := [.inl (0), fx_f a]) (M1 := M) rfl ?_
  refine Ev.callV (vs := [fx_f a, .inl (0)]) (rest := []) (r1 := (some (.inl z))) fd_e112 rfl rfl rfl (Nat.le_of_ble_eq_true rfl) (Nat.le_of_ble_eq_true rfl) (fd_rcvS ha) hc ?_
  exact k
theorem r112_3 {X : fx_Sc} {M M' : fx_M} {r : Option fx_V} {a : Nat} {s0 z : Int} {M1 : fx_M} (hc : Ev X 182 0 [.inl (s0)] [] M (some (.inl z)) M1) (k : Ev X 112 4 [fx_f a] [.inl (z)] M1 r M') : Ev X 112 3 [fx_f a] [.inl (s0)] M r M' := by
  refine Ev.callS (vs := [.inl (s0)]) (rest := []) (r1 := (some (.inl z))) fd_e112 rfl rfl rfl (Nat.le_of_ble_eq_true rfl) (Nat.le_of_ble_eq_true rfl) hc ?_
  exact k
theorem r112_4 {X : fx_Sc} {M M' : fx_M} {r : Option fx_V} {a : Nat} {s0 z : Int} {M1 : fx_M} (ha : fd_isS a) (hc : Ev X 82 0 [fx_f a, .inl (11), fx_u, fx_u] [] M (some (.inl z)) M1) (k : Ev X 112 7 [fx_f a] [.inl (z), .inl (s0)] M1 r M') : Ev X 112 4 [fx_f a] [.inl (s0)] M r M' := by
  refine Ev.run 2 fd_e112 (i' := 6) (ls' := [fx_f a]) (st' := [.inl (11), fx_f a, .inl (s0)]) (M1 := M) rfl ?_
  refine Ev.callV (vs := [fx_f a, .inl (11)]) (rest := [.inl (s0)]) (r1 := (some (.inl z))) fd_e112 rfl rfl rfl (Nat.le_of_ble_eq_true rfl) (Nat.le_of_ble_eq_true rfl) (fd_rcvS ha) hc ?_
  exact k
theorem r112_7 {X : fx_Sc} {M M' : fx_M} {r : Option fx_V} {a : Nat} {s0 s1 z : Int} {M1 : fx_M} (hc : Ev X 182 0 [.inl (s1)] [] M (some (.inl z)) M1) (k : Ev X 112 8 [fx_f a] [.inl (z), .inl (s0)] M1 r M') : Ev X 112 7 [fx_f a] [.inl (s1), .inl (s0)] M r M' := by
  refine Ev.callS (vs := [.inl (s1)]) (rest := [.inl (s0)]) (r1 := (some (.inl z))) fd_e112 rfl rfl rfl (Nat.le_of_ble_eq_true rfl) (Nat.le_of_ble_eq_true rfl) hc ?_
  exact k
theorem r112_8 {X : fx_Sc} {M : fx_M} {a : Nat} {s0 s1 : Int} : Ev X 112 8 [fx_f a] [.inl (s1), .inl (s0)] M (some (.inl ((s0 + s1)))) M := by
  refine Ev.run 1 fd_e112 (i' := 9) (ls' := [fx_f a]) (st' := [.inl ((s0 + s1))]) (M1 := M) rfl ?_
  exact Ev.ret1 fd_e112 rfl rfl
-- 113: FoldedStrips$Strip.crossingPairs()I
theorem fd_e113 : fd_C 113 = fd_c113 := rfl
theorem r113_0 {X : fx_Sc} {M M' : fx_M} {r : Option fx_V} {a : Nat} (k : Ev X 113 4 [fx_f a, .inl (0), .inl (0)] [] M r M') : Ev X 113 0 [fx_f a, fx_u, fx_u] [] M r M' := by
  refine Ev.run 4 fd_e113 (i' := 4) (ls' := [fx_f a, .inl (0), .inl (0)]) (st' := []) (M1 := M) rfl ?_
  exact k
theorem r113_4T {X : fx_Sc} {M M' : fx_M} {r : Option fx_V} {a : Nat} {x1 x2 : Int} (g : (-2147483648 ≤ x2 ∧ x2 < 2147483648)) (h : 6 ≤ x2) (k : Ev X 113 15 [fx_f a, .inl (x1), .inl (x2)] [] M r M') : Ev X 113 4 [fx_f a, .inl (x1), .inl (x2)] [] M r M' := by
  refine Ev.run 2 fd_e113 (i' := 6) (ls' := [fx_f a, .inl (x1), .inl (x2)]) (st' := [.inl (6), .inl (x2)]) (M1 := M) rfl ?_
  refine Ev.icT fd_e113 rfl g (by decide) (decide_eq_true h) ?_
  exact k
theorem r113_4F {X : fx_Sc} {M M' : fx_M} {r : Option fx_V} {a : Nat} {x1 x2 : Int} (g : (-2147483648 ≤ x2 ∧ x2 < 2147483648)) (h : x2 < 6) (k : Ev X 113 7 [fx_f a, .inl (x1), .inl (x2)] [] M r M') : Ev X 113 4 [fx_f a, .inl (x1), .inl (x2)] [] M r M' := by
  refine Ev.run 2 fd_e113 (i' := 6) (ls' := [fx_f a, .inl (x1), .inl (x2)]) (st' := [.inl (6), .inl (x2)]) (M1 := M) rfl ?_
  refine Ev.icF fd_e113 rfl g (by decide) (decide_eq_false (Int.not_le.mpr h)) ?_
  exact k
theorem r113_7 {X : fx_Sc} {M M' : fx_M} {r : Option fx_V} {a : Nat} {x1 x2 z : Int} {M1 : fx_M} (ha : fd_isS a) (hc : Ev X 103 0 [fx_f a, .inl (x2), fx_u, fx_u] [] M (some (.inl z)) M1) (k : Ev X 113 11 [fx_f a, .inl (x1), .inl (x2)] [.inl (z), .inl (x1)] M1 r M') : Ev X 113 7 [fx_f a, .inl (x1), .inl (x2)] [] M r M' := by
  refine Ev.run 3 fd_e113 (i' := 10) (ls' := [fx_f a, .inl (x1), .inl (x2)]) (st' := [.inl (x2), fx_f a, .inl (x1)]) (M1 := M) rfl ?_
  refine Ev.callV (vs := [fx_f a, .inl (x2)]) (rest := [.inl (x1)]) (r1 := (some (.inl z))) fd_e113 rfl rfl rfl (Nat.le_of_ble_eq_true rfl) (Nat.le_of_ble_eq_true rfl) (fd_rcvS ha) hc ?_
  exact k
theorem r113_11 {X : fx_Sc} {M M' : fx_M} {r : Option fx_V} {a : Nat} {x1 x2 s0 s1 : Int} (k : Ev X 113 4 [fx_f a, .inl ((s0 + s1)), .inl ((x2 + 1))] [] M r M') : Ev X 113 11 [fx_f a, .inl (x1), .inl (x2)] [.inl (s1), .inl (s0)] M r M' := by
  refine Ev.run 4 fd_e113 (i' := 4) (ls' := [fx_f a, .inl ((s0 + s1)), .inl ((x2 + 1))]) (st' := []) (M1 := M) rfl ?_
  exact k
theorem r113_15 {X : fx_Sc} {M : fx_M} {a : Nat} {x1 x2 : Int} : Ev X 113 15 [fx_f a, .inl (x1), .inl (x2)] [] M (some (.inl (x1))) M := by
  refine Ev.run 1 fd_e113 (i' := 16) (ls' := [fx_f a, .inl (x1), .inl (x2)]) (st' := [.inl (x1)]) (M1 := M) rfl ?_
  exact Ev.ret1 fd_e113 rfl rfl
-- 189: FoldedStrips$Strip.<init>()V
theorem fd_e189 : fd_C 189 = fd_c189 := rfl
theorem r189_0 {X : fx_Sc} {M M' : fx_M} {r : Option fx_V} {a : Nat} (k : Ev X 189 2 [fx_f a, .inl (0)] [] M r M') : Ev X 189 0 [fx_f a, fx_u] [] M r M' := by
  refine Ev.run 2 fd_e189 (i' := 2) (ls' := [fx_f a, .inl (0)]) (st' := []) (M1 := M) rfl ?_
  exact k
theorem r189_2T {X : fx_Sc} {M M' : fx_M} {r : Option fx_V} {a : Nat} {x1 : Int} (g : (-2147483648 ≤ x1 ∧ x1 < 2147483648)) (h : 144 ≤ x1) (k : Ev X 189 12 [fx_f a, .inl (x1)] [] M r M') : Ev X 189 2 [fx_f a, .inl (x1)] [] M r M' := by
  refine Ev.run 2 fd_e189 (i' := 4) (ls' := [fx_f a, .inl (x1)]) (st' := [.inl (144), .inl (x1)]) (M1 := M) rfl ?_
  refine Ev.icT fd_e189 rfl g (by decide) (decide_eq_true h) ?_
  exact k
theorem r189_2F {X : fx_Sc} {M M' : fx_M} {r : Option fx_V} {a : Nat} {x1 : Int} (g : (-2147483648 ≤ x1 ∧ x1 < 2147483648)) (h : x1 < 144) (k : Ev X 189 5 [fx_f a, .inl (x1)] [] M r M') : Ev X 189 2 [fx_f a, .inl (x1)] [] M r M' := by
  refine Ev.run 2 fd_e189 (i' := 4) (ls' := [fx_f a, .inl (x1)]) (st' := [.inl (144), .inl (x1)]) (M1 := M) rfl ?_
  refine Ev.icF fd_e189 rfl g (by decide) (decide_eq_false (Int.not_le.mpr h)) ?_
  exact k
theorem r189_5 {X : fx_Sc} {M M' : fx_M} {r : Option fx_V} {a : Nat} {x1 : Int} (ha : fd_isS a) (g : (0 ≤ x1 ∧ x1 < ((144 : Nat) : Int))) (k : Ev X 189 2 [fx_f a, .inl ((x1 + 1))] [] (fx_set M (a + 1) (fx_up (M (a + 1)) (x1).toNat (-1))) r M') : Ev X 189 5 [fx_f a, .inl (x1)] [] M r M' := by
  refine Ev.run 1 fd_e189 (i' := 6) (ls' := [fx_f a, .inl (x1)]) (st' := [fx_f a]) (M1 := M) rfl ?_
  refine Ev.getr fd_e189 rfl ha.1 rfl ?_
  refine Ev.run 2 fd_e189 (i' := 9) (ls' := [fx_f a, .inl (x1)]) (st' := [.inl ((-1)), .inl (x1), fx_f (a + 1)]) (M1 := M) rfl ?_
  refine Ev.iast fd_e189 rfl ha.2.1 (by decide) g ?_
  refine Ev.run 2 fd_e189 (i' := 2) (ls' := [fx_f a, .inl ((x1 + 1))]) (st' := []) (M1 := (fx_set M (a + 1) (fx_up (M (a + 1)) (x1).toNat (-1)))) rfl ?_
  exact k
theorem r189_12 {X : fx_Sc} {M M' : fx_M} {r : Option fx_V} {a : Nat} {x1 : Int} (k : Ev X 189 14 [fx_f a, .inl (0)] [] M r M') : Ev X 189 12 [fx_f a, .inl (x1)] [] M r M' := by
  refine Ev.run 2 fd_e189 (i' := 14) (ls' := [fx_f a, .inl (0)]) (st' := []) (M1 := M) rfl ?_
  exact k
theorem r189_14T {X : fx_Sc} {M M' : fx_M} {r : Option fx_V} {a : Nat} {x1 : Int} (g : (-2147483648 ≤ x1 ∧ x1 < 2147483648)) (h : 6 ≤ x1) (k : Ev X 189 24 [fx_f a, .inl (x1)] [] M r M') : Ev X 189 14 [fx_f a, .inl (x1)] [] M r M' := by
  refine Ev.run 2 fd_e189 (i' := 16) (ls' := [fx_f a, .inl (x1)]) (st' := [.inl (6), .inl (x1)]) (M1 := M) rfl ?_
  refine Ev.icT fd_e189 rfl g (by decide) (decide_eq_true h) ?_
  exact k
theorem r189_14F {X : fx_Sc} {M M' : fx_M} {r : Option fx_V} {a : Nat} {x1 : Int} (g : (-2147483648 ≤ x1 ∧ x1 < 2147483648)) (h : x1 < 6) (k : Ev X 189 17 [fx_f a, .inl (x1)] [] M r M') : Ev X 189 14 [fx_f a, .inl (x1)] [] M r M' := by
  refine Ev.run 2 fd_e189 (i' := 16) (ls' := [fx_f a, .inl (x1)]) (st' := [.inl (6), .inl (x1)]) (M1 := M) rfl ?_
  refine Ev.icF fd_e189 rfl g (by decide) (decide_eq_false (Int.not_le.mpr h)) ?_
  exact k
theorem r189_17 {X : fx_Sc} {M M' : fx_M} {r : Option fx_V} {a : Nat} {x1 : Int} (ha : fd_isS a) (g : (0 ≤ x1 ∧ x1 < ((6 : Nat) : Int))) (k : Ev X 189 14 [fx_f a, .inl ((x1 + 1))] [] (fx_set M (a + 2) (fx_up (M (a + 2)) (x1).toNat x1)) r M') : Ev X 189 17 [fx_f a, .inl (x1)] [] M r M' := by
  refine Ev.run 1 fd_e189 (i' := 18) (ls' := [fx_f a, .inl (x1)]) (st' := [fx_f a]) (M1 := M) rfl ?_
  refine Ev.getr fd_e189 rfl ha.1 rfl ?_
  refine Ev.run 2 fd_e189 (i' := 21) (ls' := [fx_f a, .inl (x1)]) (st' := [.inl (x1), .inl (x1), fx_f (a + 2)]) (M1 := M) rfl ?_
  refine Ev.iast fd_e189 rfl ha.2.2.1 (by decide) g ?_
  refine Ev.run 2 fd_e189 (i' := 14) (ls' := [fx_f a, .inl ((x1 + 1))]) (st' := []) (M1 := (fx_set M (a + 2) (fx_up (M (a + 2)) (x1).toNat x1))) rfl ?_
  exact k
theorem r189_24 {X : fx_Sc} {M : fx_M} {a : Nat} {x1 : Int} : Ev X 189 24 [fx_f a, .inl (x1)] [] M none M := by
  exact Ev.retv fd_e189 rfl rfl

-- 38: FoldedStrips$History.remember(LFoldedStrips$Strip;)V
theorem fd_e38 : fd_C 38 = fd_c38 := rfl
theorem r38_0 {X : fx_Sc} {M M' : fx_M} {r : Option fx_V} {a : Nat} {z : Nat} {M1 : fx_M} (hc : Ev X 192 0 [fx_f 19, .inl ((M 19 2))] [] M (some (fx_f z)) M1) (k : Ev X 38 4 [fx_f 19, fx_f a, fx_u] [fx_f z] M1 r M') : Ev X 38 0 [fx_f 19, fx_f a, fx_u] [] M r M' := by
  refine Ev.run 3 fd_e38 (i' := 3) (ls' := [fx_f 19, fx_f a, fx_u]) (st' := [.inl ((M 19 2)), fx_f 19]) (M1 := M) rfl ?_
  refine Ev.callV (vs := [fx_f 19, .inl ((M 19 2))]) (rest := []) (r1 := (some (fx_f z))) fd_e38 rfl rfl rfl (Nat.le_of_ble_eq_true rfl) (Nat.le_of_ble_eq_true rfl) rfl hc ?_
  exact k
theorem r38_4 {X : fx_Sc} {M M' : fx_M} {r : Option fx_V} {a z : Nat} {M1 : fx_M} (hz : fd_isS z) (hc : Ev X 77 0 [fx_f z, fx_f a] [] M none M1) (k : Ev X 38 11 [fx_f 19, fx_f a, fx_f z] [] M1 r M') : Ev X 38 4 [fx_f 19, fx_f a, fx_u] [fx_f z] M r M' := by
  refine Ev.run 5 fd_e38 (i' := 10) (ls' := [fx_f 19, fx_f a, fx_f z]) (st' := [fx_f a, fx_f z]) (M1 := M) rfl ?_
  refine Ev.callV (vs := [fx_f z, fx_f a]) (rest := []) (r1 := none) fd_e38 rfl rfl rfl (Nat.le_of_ble_eq_true rfl) (Nat.le_of_ble_eq_true rfl) (fd_rcvS hz) hc ?_
  exact k
theorem r38_11 {X : fx_Sc} {M : fx_M} {a z : Nat} (g : (-2147483648 ≤ (((fx_set M 19 (fx_up (M 19) 2 (fx_rem ((M 19 2) + 1) 6))) 19 1) + 1) ∧ (((fx_set M 19 (fx_up (M 19) 2 (fx_rem ((M 19 2) + 1) 6))) 19 1) + 1) < 2147483648)) : Ev X 38 11 [fx_f 19, fx_f a, fx_f z] [] M none (fx_set (fx_set M 19 (fx_up (M 19) 2 (fx_rem ((M 19 2) + 1) 6))) 19 (fx_up ((fx_set M 19 (fx_up (M 19) 2 (fx_rem ((M 19 2) + 1) 6))) 19) 1 (if 6 < (((fx_set M 19 (fx_up (M 19) 2 (fx_rem ((M 19 2) + 1) 6))) 19 1) + 1) then 6 else (((fx_set M 19 (fx_up (M 19) 2 (fx_rem ((M 19 2) + 1) 6))) 19 1) + 1)))) := by
  refine Ev.run 6 fd_e38 (i' := 17) (ls' := [fx_f 19, fx_f a, fx_f z]) (st' := [.inl (6), .inl (((M 19 2) + 1)), fx_f 19]) (M1 := M) rfl ?_
  refine Ev.rem fd_e38 rfl (by decide) ?_
  refine Ev.run 7 fd_e38 (i' := 25) (ls' := [fx_f 19, fx_f a, fx_f z]) (st' := [.inl (6), .inl ((((fx_set M 19 (fx_up (M 19) 2 (fx_rem ((M 19 2) + 1) 6))) 19 1) + 1)), fx_f 19]) (M1 := (fx_set M 19 (fx_up (M 19) 2 (fx_rem ((M 19 2) + 1) 6)))) rfl ?_
  refine Ev.min fd_e38 rfl g (by decide) (Nat.le_of_ble_eq_true rfl) ?_
  refine Ev.run 1 fd_e38 (i' := 27) (ls' := [fx_f 19, fx_f a, fx_f z]) (st' := []) (M1 := (fx_set (fx_set M 19 (fx_up (M 19) 2 (fx_rem ((M 19 2) + 1) 6))) 19 (fx_up ((fx_set M 19 (fx_up (M 19) 2 (fx_rem ((M 19 2) + 1) 6))) 19) 1 (if 6 < (((fx_set M 19 (fx_up (M 19) 2 (fx_rem ((M 19 2) + 1) 6))) 19 1) + 1) then 6 else (((fx_set M 19 (fx_up (M 19) 2 (fx_rem ((M 19 2) + 1) 6))) 19 1) + 1))))) rfl ?_
  exact Ev.retv fd_e38 rfl rfl
-- 39: FoldedStrips$History.size()I
theorem fd_e39 : fd_C 39 = fd_c39 := rfl
theorem r39_0 {X : fx_Sc} {M : fx_M} : Ev X 39 0 [fx_f 19] [] M (some (.inl ((M 19 1)))) M := by
  refine Ev.run 2 fd_e39 (i' := 2) (ls' := [fx_f 19]) (st' := [.inl ((M 19 1))]) (M1 := M) rfl ?_
  exact Ev.ret1 fd_e39 rfl rfl
-- 40: FoldedStrips$History.goBack(LFoldedStrips$Strip;)V
theorem fd_e40 : fd_C 40 = fd_c40 := rfl
theorem r40_0 {X : fx_Sc} {M M' : fx_M} {r : Option fx_V} {a : Nat} {z : Nat} {M1 : fx_M} (hc : Ev X 192 0 [fx_f 19, .inl ((fx_rem (((M 19 2) + 6) - 1) 6))] [] M (some (fx_f z)) M1) (k : Ev X 40 12 [fx_f 19, fx_f a, .inl ((fx_rem (((M 19 2) + 6) - 1) 6)), fx_u] [fx_f z] M1 r M') : Ev X 40 0 [fx_f 19, fx_f a, fx_u, fx_u] [] M r M' := by
  refine Ev.run 7 fd_e40 (i' := 7) (ls' := [fx_f 19, fx_f a, fx_u, fx_u]) (st' := [.inl (6), .inl ((((M 19 2) + 6) - 1))]) (M1 := M) rfl ?_
  refine Ev.rem fd_e40 rfl (by decide) ?_
  refine Ev.run 3 fd_e40 (i' := 11) (ls' := [fx_f 19, fx_f a, .inl ((fx_rem (((M 19 2) + 6) - 1) 6)), fx_u]) (st' := [.inl ((fx_rem (((M 19 2) + 6) - 1) 6)), fx_f 19]) (M1 := M) rfl ?_
  refine Ev.callV (vs := [fx_f 19, .inl ((fx_rem (((M 19 2) + 6) - 1) 6))]) (rest := []) (r1 := (some (fx_f z))) fd_e40 rfl rfl rfl (Nat.le_of_ble_eq_true rfl) (Nat.le_of_ble_eq_true rfl) rfl hc ?_
  exact k
theorem r40_12T {X : fx_Sc} {M M' : fx_M} {r : Option fx_V} {a z : Nat} {x2 : Int} (g : (-2147483648 ≤ (M 19 1) ∧ (M 19 1) < 2147483648)) (h : (M 19 1) ≠ 0) (k : Ev X 40 19 [fx_f 19, fx_f a, .inl (x2), fx_f z] [] M r M') : Ev X 40 12 [fx_f 19, fx_f a, .inl (x2), fx_u] [fx_f z] M r M' := by
  refine Ev.run 5 fd_e40 (i' := 17) (ls' := [fx_f 19, fx_f a, .inl (x2), fx_f z]) (st' := [.inl ((M 19 1))]) (M1 := M) rfl ?_
  refine Ev.ifT fd_e40 rfl g (decide_eq_true h) ?_
  exact k
theorem r40_12F {X : fx_Sc} {M M' : fx_M} {r : Option fx_V} {a z : Nat} {x2 : Int} (g : (-2147483648 ≤ (M 19 1) ∧ (M 19 1) < 2147483648)) (h : (M 19 1) = 0) (k : Ev X 40 18 [fx_f 19, fx_f a, .inl (x2), fx_f z] [] M r M') : Ev X 40 12 [fx_f 19, fx_f a, .inl (x2), fx_u] [fx_f z] M r M' := by
  refine Ev.run 5 fd_e40 (i' := 17) (ls' := [fx_f 19, fx_f a, .inl (x2), fx_f z]) (st' := [.inl ((M 19 1))]) (M1 := M) rfl ?_
  refine Ev.ifF fd_e40 rfl g (decide_eq_false (not_not_intro h)) ?_
  exact k
theorem r40_18 {X : fx_Sc} {M : fx_M} {a z : Nat} {x2 : Int} : Ev X 40 18 [fx_f 19, fx_f a, .inl (x2), fx_f z] [] M none M := by
  exact Ev.retv fd_e40 rfl rfl
theorem r40_19 {X : fx_Sc} {M M' : fx_M} {r : Option fx_V} {a z : Nat} {x2 : Int} {M1 : fx_M} (ha : fd_isS a) (hc : Ev X 77 0 [fx_f a, fx_f z] [] M none M1) (k : Ev X 40 22 [fx_f 19, fx_f a, .inl (x2), fx_f z] [] M1 r M') : Ev X 40 19 [fx_f 19, fx_f a, .inl (x2), fx_f z] [] M r M' := by
  refine Ev.run 2 fd_e40 (i' := 21) (ls' := [fx_f 19, fx_f a, .inl (x2), fx_f z]) (st' := [fx_f z, fx_f a]) (M1 := M) rfl ?_
  refine Ev.callV (vs := [fx_f a, fx_f z]) (rest := []) (r1 := none) fd_e40 rfl rfl rfl (Nat.le_of_ble_eq_true rfl) (Nat.le_of_ble_eq_true rfl) (fd_rcvS ha) hc ?_
  exact k
theorem r40_22 {X : fx_Sc} {M : fx_M} {a z : Nat} {x2 : Int} : Ev X 40 22 [fx_f 19, fx_f a, .inl (x2), fx_f z] [] M none (fx_set (fx_set M 19 (fx_up (M 19) 2 x2)) 19 (fx_up ((fx_set M 19 (fx_up (M 19) 2 x2)) 19) 1 (((fx_set M 19 (fx_up (M 19) 2 x2)) 19 1) - 1))) := by
  refine Ev.run 9 fd_e40 (i' := 31) (ls' := [fx_f 19, fx_f a, .inl (x2), fx_f z]) (st' := []) (M1 := (fx_set (fx_set M 19 (fx_up (M 19) 2 x2)) 19 (fx_up ((fx_set M 19 (fx_up (M 19) 2 x2)) 19) 1 (((fx_set M 19 (fx_up (M 19) 2 x2)) 19 1) - 1)))) rfl ?_
  exact Ev.retv fd_e40 rfl rfl
-- 41: FoldedStrips$Lines.trace(LFoldedStrips$Strip;)V
theorem fd_e41 : fd_C 41 = fd_c41 := rfl
theorem r41_0 {X : fx_Sc} {M M' : fx_M} {r : Option fx_V} {a : Nat} {M1 : fx_M} (hc : Ev X 183 0 [fx_f 10, .inl ((-1)), fx_u, fx_u] [] (fx_set M 9 (fx_up (M 9) 0 0)) none M1) (k : Ev X 41 7 [fx_f 9, fx_f a, fx_u] [] M1 r M') : Ev X 41 0 [fx_f 9, fx_f a, fx_u] [] M r M' := by
  refine Ev.run 6 fd_e41 (i' := 6) (ls' := [fx_f 9, fx_f a, fx_u]) (st' := [.inl ((-1)), fx_f 10]) (M1 := (fx_set M 9 (fx_up (M 9) 0 0))) rfl ?_
  refine Ev.callS (vs := [fx_f 10, .inl ((-1))]) (rest := []) (r1 := none) fd_e41 rfl rfl rfl (Nat.le_of_ble_eq_true rfl) (Nat.le_of_ble_eq_true rfl) hc ?_
  exact k
theorem r41_7 {X : fx_Sc} {M M' : fx_M} {r : Option fx_V} {a : Nat} (k : Ev X 41 9 [fx_f 9, fx_f a, .inl (0)] [] M r M') : Ev X 41 7 [fx_f 9, fx_f a, fx_u] [] M r M' := by
  refine Ev.run 2 fd_e41 (i' := 9) (ls' := [fx_f 9, fx_f a, .inl (0)]) (st' := []) (M1 := M) rfl ?_
  exact k
theorem r41_9T {X : fx_Sc} {M M' : fx_M} {r : Option fx_V} {a : Nat} {x2 : Int} (g : (-2147483648 ≤ x2 ∧ x2 < 2147483648)) (h : 144 ≤ x2) (k : Ev X 41 28 [fx_f 9, fx_f a, .inl (x2)] [] M r M') : Ev X 41 9 [fx_f 9, fx_f a, .inl (x2)] [] M r M' := by
  refine Ev.run 2 fd_e41 (i' := 11) (ls' := [fx_f 9, fx_f a, .inl (x2)]) (st' := [.inl (144), .inl (x2)]) (M1 := M) rfl ?_
  refine Ev.icT fd_e41 rfl g (by decide) (decide_eq_true h) ?_
  exact k
theorem r41_9F {X : fx_Sc} {M M' : fx_M} {r : Option fx_V} {a : Nat} {x2 : Int} (g : (-2147483648 ≤ x2 ∧ x2 < 2147483648)) (h : x2 < 144) (k : Ev X 41 12 [fx_f 9, fx_f a, .inl (x2)] [] M r M') : Ev X 41 9 [fx_f 9, fx_f a, .inl (x2)] [] M r M' := by
  refine Ev.run 2 fd_e41 (i' := 11) (ls' := [fx_f 9, fx_f a, .inl (x2)]) (st' := [.inl (144), .inl (x2)]) (M1 := M) rfl ?_
  refine Ev.icF fd_e41 rfl g (by decide) (decide_eq_false (Int.not_le.mpr h)) ?_
  exact k
theorem r41_12 {X : fx_Sc} {M M' : fx_M} {r : Option fx_V} {a : Nat} {x2 z : Int} {M1 : fx_M} (ha : fd_isS a) (hc : Ev X 83 0 [fx_f a, .inl (x2)] [] M (some (.inl z)) M1) (k : Ev X 41 15 [fx_f 9, fx_f a, .inl (x2)] [.inl (z)] M1 r M') : Ev X 41 12 [fx_f 9, fx_f a, .inl (x2)] [] M r M' := by
  refine Ev.run 2 fd_e41 (i' := 14) (ls' := [fx_f 9, fx_f a, .inl (x2)]) (st' := [.inl (x2), fx_f a]) (M1 := M) rfl ?_
  refine Ev.callV (vs := [fx_f a, .inl (x2)]) (rest := []) (r1 := (some (.inl z))) fd_e41 rfl rfl rfl (Nat.le_of_ble_eq_true rfl) (Nat.le_of_ble_eq_true rfl) (fd_rcvS ha) hc ?_
  exact k
theorem r41_15T {X : fx_Sc} {M M' : fx_M} {r : Option fx_V} {a : Nat} {x2 s0 : Int} (g : (-2147483648 ≤ s0 ∧ s0 < 2147483648)) (h : s0 = 0) (k : Ev X 41 26 [fx_f 9, fx_f a, .inl (x2)] [] M r M') : Ev X 41 15 [fx_f 9, fx_f a, .inl (x2)] [.inl (s0)] M r M' := by
  refine Ev.ifT fd_e41 rfl g (decide_eq_true h) ?_
  exact k
theorem r41_15F {X : fx_Sc} {M M' : fx_M} {r : Option fx_V} {a : Nat} {x2 s0 : Int} (g : (-2147483648 ≤ s0 ∧ s0 < 2147483648)) (h : s0 ≠ 0) (k : Ev X 41 16 [fx_f 9, fx_f a, .inl (x2)] [] M r M') : Ev X 41 15 [fx_f 9, fx_f a, .inl (x2)] [.inl (s0)] M r M' := by
  refine Ev.ifF fd_e41 rfl g (decide_eq_false h) ?_
  exact k
theorem r41_16T {X : fx_Sc} {M M' : fx_M} {r : Option fx_V} {a : Nat} {x2 : Int} (g : (0 ≤ x2 ∧ x2 < ((144 : Nat) : Int)) ∧ (-2147483648 ≤ (M 10 (x2).toNat) ∧ (M 10 (x2).toNat) < 2147483648)) (h : (M 10 (x2).toNat) ≠ (-1)) (k : Ev X 41 26 [fx_f 9, fx_f a, .inl (x2)] [] M r M') : Ev X 41 16 [fx_f 9, fx_f a, .inl (x2)] [] M r M' := by
  refine Ev.run 3 fd_e41 (i' := 19) (ls' := [fx_f 9, fx_f a, .inl (x2)]) (st' := [.inl (x2), fx_f 10]) (M1 := M) rfl ?_
  refine Ev.iald fd_e41 rfl rfl (by decide) g.1 ?_
  refine Ev.run 1 fd_e41 (i' := 21) (ls' := [fx_f 9, fx_f a, .inl (x2)]) (st' := [.inl ((-1)), .inl ((M 10 (x2).toNat))]) (M1 := M) rfl ?_
  refine Ev.icT fd_e41 rfl g.2 (by decide) (decide_eq_true h) ?_
  exact k
theorem r41_16F {X : fx_Sc} {M M' : fx_M} {r : Option fx_V} {a : Nat} {x2 : Int} (g : (0 ≤ x2 ∧ x2 < ((144 : Nat) : Int)) ∧ (-2147483648 ≤ (M 10 (x2).toNat) ∧ (M 10 (x2).toNat) < 2147483648)) (h : (M 10 (x2).toNat) = (-1)) (k : Ev X 41 22 [fx_f 9, fx_f a, .inl (x2)] [] M r M') : Ev X 41 16 [fx_f 9, fx_f a, .inl (x2)] [] M r M' := by
  refine Ev.run 3 fd_e41 (i' := 19) (ls' := [fx_f 9, fx_f a, .inl (x2)]) (st' := [.inl (x2), fx_f 10]) (M1 := M) rfl ?_
  refine Ev.iald fd_e41 rfl rfl (by decide) g.1 ?_
  refine Ev.run 1 fd_e41 (i' := 21) (ls' := [fx_f 9, fx_f a, .inl (x2)]) (st' := [.inl ((-1)), .inl ((M 10 (x2).toNat))]) (M1 := M) rfl ?_
  refine Ev.icF fd_e41 rfl g.2 (by decide) (decide_eq_false (not_not_intro h)) ?_
  exact k
theorem r41_22 {X : fx_Sc} {M M' : fx_M} {r : Option fx_V} {a : Nat} {x2 : Int} {M1 : fx_M} (hc : Ev X 42 0 [fx_f 9, fx_f a, .inl (x2), fx_u, fx_u, fx_u] [] M none M1) (k : Ev X 41 26 [fx_f 9, fx_f a, .inl (x2)] [] M1 r M') : Ev X 41 22 [fx_f 9, fx_f a, .inl (x2)] [] M r M' := by
  refine Ev.run 3 fd_e41 (i' := 25) (ls' := [fx_f 9, fx_f a, .inl (x2)]) (st' := [.inl (x2), fx_f a, fx_f 9]) (M1 := M) rfl ?_
  refine Ev.callV (vs := [fx_f 9, fx_f a, .inl (x2)]) (rest := []) (r1 := none) fd_e41 rfl rfl rfl (Nat.le_of_ble_eq_true rfl) (Nat.le_of_ble_eq_true rfl) rfl hc ?_
  exact k
theorem r41_26 {X : fx_Sc} {M M' : fx_M} {r : Option fx_V} {a : Nat} {x2 : Int} (k : Ev X 41 9 [fx_f 9, fx_f a, .inl ((x2 + 1))] [] M r M') : Ev X 41 26 [fx_f 9, fx_f a, .inl (x2)] [] M r M' := by
  refine Ev.run 2 fd_e41 (i' := 9) (ls' := [fx_f 9, fx_f a, .inl ((x2 + 1))]) (st' := []) (M1 := M) rfl ?_
  exact k
theorem r41_28 {X : fx_Sc} {M : fx_M} {a : Nat} {x2 : Int} : Ev X 41 28 [fx_f 9, fx_f a, .inl (x2)] [] M none M := by
  exact Ev.retv fd_e41 rfl rfl
-- 42: FoldedStrips$Lines.addLine(LFoldedStrips$Strip;I)V
theorem fd_e42 : fd_C 42 = fd_c42 := rfl
theorem r42_0 {X : fx_Sc} {M M' : fx_M} {r : Option fx_V} {a : Nat} {x2 z : Int} {M1 : fx_M} (hc : Ev X 43 0 [.inl ((M 9 0))] [] M (some (.inl z)) M1) (k : Ev X 42 5 [fx_f 9, fx_f a, .inl (x2), .inl ((M 9 0)), fx_u, fx_u] [.inl (z)] M1 r M') : Ev X 42 0 [fx_f 9, fx_f a, .inl (x2), fx_u, fx_u, fx_u] [] M r M' := by
  refine Ev.run 4 fd_e42 (i' := 4) (ls' := [fx_f 9, fx_f a, .inl (x2), .inl ((M 9 0)), fx_u, fx_u]) (st' := [.inl ((M 9 0))]) (M1 := M) rfl ?_
  refine Ev.callS (vs := [.inl ((M 9 0))]) (rest := []) (r1 := (some (.inl z))) fd_e42 rfl rfl rfl (Nat.le_of_ble_eq_true rfl) (Nat.le_of_ble_eq_true rfl) hc ?_
  exact k
theorem r42_5T {X : fx_Sc} {M M' : fx_M} {r : Option fx_V} {a : Nat} {x2 x3 s0 : Int} (g : (-2147483648 ≤ s0 ∧ s0 < 2147483648)) (h : s0 ≠ 0) (k : Ev X 42 7 [fx_f 9, fx_f a, .inl (x2), .inl (x3), fx_u, fx_u] [] M r M') : Ev X 42 5 [fx_f 9, fx_f a, .inl (x2), .inl (x3), fx_u, fx_u] [.inl (s0)] M r M' := by
  refine Ev.ifT fd_e42 rfl g (decide_eq_true h) ?_
  exact k
theorem r42_5F {X : fx_Sc} {M M' : fx_M} {r : Option fx_V} {a : Nat} {x2 x3 s0 : Int} (g : (-2147483648 ≤ s0 ∧ s0 < 2147483648)) (h : s0 = 0) (k : Ev X 42 6 [fx_f 9, fx_f a, .inl (x2), .inl (x3), fx_u, fx_u] [] M r M') : Ev X 42 5 [fx_f 9, fx_f a, .inl (x2), .inl (x3), fx_u, fx_u] [.inl (s0)] M r M' := by
  refine Ev.ifF fd_e42 rfl g (decide_eq_false (not_not_intro h)) ?_
  exact k
theorem r42_6 {X : fx_Sc} {M : fx_M} {a : Nat} {x2 x3 : Int} : Ev X 42 6 [fx_f 9, fx_f a, .inl (x2), .inl (x3), fx_u, fx_u] [] M none M := by
  exact Ev.retv fd_e42 rfl rfl
theorem r42_7 {X : fx_Sc} {M M' : fx_M} {r : Option fx_V} {a : Nat} {x2 x3 z : Int} {M1 : fx_M} (g : (0 ≤ x3 ∧ x3 < ((72 : Nat) : Int))) (hc : Ev X 44 0 [fx_f 9, fx_f a, .inl (x3), .inl (x2), fx_u, fx_u, fx_u] [] (fx_set (fx_set (fx_set (fx_set M 9 (fx_up (M 9) 0 ((M 9 0) + 1))) 11 (fx_up ((fx_set M 9 (fx_up (M 9) 0 ((M 9 0) + 1))) 11) (x3).toNat 0)) 12 (fx_up ((fx_set (fx_set M 9 (fx_up (M 9) 0 ((M 9 0) + 1))) 11 (fx_up ((fx_set M 9 (fx_up (M 9) 0 ((M 9 0) + 1))) 11) (x3).toNat 0)) 12) (x3).toNat 0)) 13 (fx_up ((fx_set (fx_set (fx_set M 9 (fx_up (M 9) 0 ((M 9 0) + 1))) 11 (fx_up ((fx_set M 9 (fx_up (M 9) 0 ((M 9 0) + 1))) 11) (x3).toNat 0)) 12 (fx_up ((fx_set (fx_set M 9 (fx_up (M 9) 0 ((M 9 0) + 1))) 11 (fx_up ((fx_set M 9 (fx_up (M 9) 0 ((M 9 0) + 1))) 11) (x3).toNat 0)) 12) (x3).toNat 0)) 13) (x3).toNat 0)) (some (.inl z)) M1) (k : Ev X 42 33 [fx_f 9, fx_f a, .inl (x2), .inl (x3), fx_u, fx_u] [.inl (z)] M1 r M') : Ev X 42 7 [fx_f 9, fx_f a, .inl (x2), .inl (x3), fx_u, fx_u] [] M r M' := by
  refine Ev.run 10 fd_e42 (i' := 17) (ls' := [fx_f 9, fx_f a, .inl (x2), .inl (x3), fx_u, fx_u]) (st' := [.inl (0), .inl (x3), fx_f 11]) (M1 := (fx_set M 9 (fx_up (M 9) 0 ((M 9 0) + 1)))) rfl ?_
  refine Ev.iast fd_e42 rfl rfl (by decide) g ?_
  refine Ev.run 4 fd_e42 (i' := 22) (ls' := [fx_f 9, fx_f a, .inl (x2), .inl (x3), fx_u, fx_u]) (st' := [.inl (0), .inl (x3), fx_f 12]) (M1 := (fx_set (fx_set M 9 (fx_up (M 9) 0 ((M 9 0) + 1))) 11 (fx_up ((fx_set M 9 (fx_up (M 9) 0 ((M 9 0) + 1))) 11) (x3).toNat 0))) rfl ?_
  refine Ev.iast fd_e42 rfl rfl (by decide) g ?_
  refine Ev.run 4 fd_e42 (i' := 27) (ls' := [fx_f 9, fx_f a, .inl (x2), .inl (x3), fx_u, fx_u]) (st' := [.inl (0), .inl (x3), fx_f 13]) (M1 := (fx_set (fx_set (fx_set M 9 (fx_up (M 9) 0 ((M 9 0) + 1))) 11 (fx_up ((fx_set M 9 (fx_up (M 9) 0 ((M 9 0) + 1))) 11) (x3).toNat 0)) 12 (fx_up ((fx_set (fx_set M 9 (fx_up (M 9) 0 ((M 9 0) + 1))) 11 (fx_up ((fx_set M 9 (fx_up (M 9) 0 ((M 9 0) + 1))) 11) (x3).toNat 0)) 12) (x3).toNat 0))) rfl ?_
  refine Ev.iast fd_e42 rfl rfl (by decide) g ?_
  refine Ev.run 4 fd_e42 (i' := 32) (ls' := [fx_f 9, fx_f a, .inl (x2), .inl (x3), fx_u, fx_u]) (st' := [.inl (x2), .inl (x3), fx_f a, fx_f 9]) (M1 := (fx_set (fx_set (fx_set (fx_set M 9 (fx_up (M 9) 0 ((M 9 0) + 1))) 11 (fx_up ((fx_set M 9 (fx_up (M 9) 0 ((M 9 0) + 1))) 11) (x3).toNat 0)) 12 (fx_up ((fx_set (fx_set M 9 (fx_up (M 9) 0 ((M 9 0) + 1))) 11 (fx_up ((fx_set M 9 (fx_up (M 9) 0 ((M 9 0) + 1))) 11) (x3).toNat 0)) 12) (x3).toNat 0)) 13 (fx_up ((fx_set (fx_set (fx_set M 9 (fx_up (M 9) 0 ((M 9 0) + 1))) 11 (fx_up ((fx_set M 9 (fx_up (M 9) 0 ((M 9 0) + 1))) 11) (x3).toNat 0)) 12 (fx_up ((fx_set (fx_set M 9 (fx_up (M 9) 0 ((M 9 0) + 1))) 11 (fx_up ((fx_set M 9 (fx_up (M 9) 0 ((M 9 0) + 1))) 11) (x3).toNat 0)) 12) (x3).toNat 0)) 13) (x3).toNat 0))) rfl ?_
  refine Ev.callV (vs := [fx_f 9, fx_f a, .inl (x3), .inl (x2)]) (rest := []) (r1 := (some (.inl z))) fd_e42 rfl rfl rfl (Nat.le_of_ble_eq_true rfl) (Nat.le_of_ble_eq_true rfl) rfl hc ?_
  exact k
theorem r42_33 {X : fx_Sc} {M M' : fx_M} {r : Option fx_V} {a : Nat} {x2 x3 s0 z : Int} {M1 : fx_M} (hc : Ev X 17 0 [.inl (x2), fx_u, fx_u] [] M (some (.inl z)) M1) (k : Ev X 42 39 [fx_f 9, fx_f a, .inl (x2), .inl (x3), .inl (s0), fx_u] [.inl (z), .inl (x3), fx_f a, fx_f 9] M1 r M') : Ev X 42 33 [fx_f 9, fx_f a, .inl (x2), .inl (x3), fx_u, fx_u] [.inl (s0)] M r M' := by
  refine Ev.run 5 fd_e42 (i' := 38) (ls' := [fx_f 9, fx_f a, .inl (x2), .inl (x3), .inl (s0), fx_u]) (st' := [.inl (x2), .inl (x3), fx_f a, fx_f 9]) (M1 := M) rfl ?_
  refine Ev.callS (vs := [.inl (x2)]) (rest := [.inl (x3), fx_f a, fx_f 9]) (r1 := (some (.inl z))) fd_e42 rfl rfl rfl (Nat.le_of_ble_eq_true rfl) (Nat.le_of_ble_eq_true rfl) hc ?_
  exact k
theorem r42_39 {X : fx_Sc} {M M' : fx_M} {r : Option fx_V} {a : Nat} {x2 x3 x4 s2 s3 z : Int} {M1 : fx_M} (hc : Ev X 44 0 [fx_f 9, fx_f a, .inl (s2), .inl (s3), fx_u, fx_u, fx_u] [] M (some (.inl z)) M1) (k : Ev X 42 40 [fx_f 9, fx_f a, .inl (x2), .inl (x3), .inl (x4), fx_u] [.inl (z)] M1 r M') : Ev X 42 39 [fx_f 9, fx_f a, .inl (x2), .inl (x3), .inl (x4), fx_u] [.inl (s3), .inl (s2), fx_f a, fx_f 9] M r M' := by
  refine Ev.callV (vs := [fx_f 9, fx_f a, .inl (s2), .inl (s3)]) (rest := []) (r1 := (some (.inl z))) fd_e42 rfl rfl rfl (Nat.le_of_ble_eq_true rfl) (Nat.le_of_ble_eq_true rfl) rfl hc ?_
  exact k
theorem r42_40T {X : fx_Sc} {M M' : fx_M} {r : Option fx_V} {a : Nat} {x2 x3 x4 s0 : Int} (g : (-2147483648 ≤ s0 ∧ s0 < 2147483648)) (h : s0 ≠ (-1)) (k : Ev X 42 46 [fx_f 9, fx_f a, .inl (x2), .inl (x3), .inl (x4), .inl (s0)] [] M r M') : Ev X 42 40 [fx_f 9, fx_f a, .inl (x2), .inl (x3), .inl (x4), fx_u] [.inl (s0)] M r M' := by
  refine Ev.run 3 fd_e42 (i' := 43) (ls' := [fx_f 9, fx_f a, .inl (x2), .inl (x3), .inl (x4), .inl (s0)]) (st' := [.inl ((-1)), .inl (s0)]) (M1 := M) rfl ?_
  refine Ev.icT fd_e42 rfl g (by decide) (decide_eq_true h) ?_
  exact k
theorem r42_40F {X : fx_Sc} {M M' : fx_M} {r : Option fx_V} {a : Nat} {x2 x3 x4 s0 : Int} (g : (-2147483648 ≤ s0 ∧ s0 < 2147483648)) (h : s0 = (-1)) (k : Ev X 42 44 [fx_f 9, fx_f a, .inl (x2), .inl (x3), .inl (x4), .inl (s0)] [] M r M') : Ev X 42 40 [fx_f 9, fx_f a, .inl (x2), .inl (x3), .inl (x4), fx_u] [.inl (s0)] M r M' := by
  refine Ev.run 3 fd_e42 (i' := 43) (ls' := [fx_f 9, fx_f a, .inl (x2), .inl (x3), .inl (x4), .inl (s0)]) (st' := [.inl ((-1)), .inl (s0)]) (M1 := M) rfl ?_
  refine Ev.icF fd_e42 rfl g (by decide) (decide_eq_false (not_not_intro h)) ?_
  exact k
theorem r42_44 {X : fx_Sc} {M M' : fx_M} {r : Option fx_V} {a : Nat} {x2 x3 x4 x5 z : Int} {M1 : fx_M} (hc : Ev X 17 0 [.inl (x4), fx_u, fx_u] [] M (some (.inl z)) M1) (k : Ev X 42 51 [fx_f 9, fx_f a, .inl (x2), .inl (x3), .inl (x4), .inl (x2)] [.inl (z), .inl (x3), fx_f 16] M1 r M') : Ev X 42 44 [fx_f 9, fx_f a, .inl (x2), .inl (x3), .inl (x4), .inl (x5)] [] M r M' := by
  refine Ev.run 6 fd_e42 (i' := 50) (ls' := [fx_f 9, fx_f a, .inl (x2), .inl (x3), .inl (x4), .inl (x2)]) (st' := [.inl (x4), .inl (x3), fx_f 16]) (M1 := M) rfl ?_
  refine Ev.callS (vs := [.inl (x4)]) (rest := [.inl (x3), fx_f 16]) (r1 := (some (.inl z))) fd_e42 rfl rfl rfl (Nat.le_of_ble_eq_true rfl) (Nat.le_of_ble_eq_true rfl) hc ?_
  exact k
theorem r42_46 {X : fx_Sc} {M M' : fx_M} {r : Option fx_V} {a : Nat} {x2 x3 x4 x5 z : Int} {M1 : fx_M} (hc : Ev X 17 0 [.inl (x4), fx_u, fx_u] [] M (some (.inl z)) M1) (k : Ev X 42 51 [fx_f 9, fx_f a, .inl (x2), .inl (x3), .inl (x4), .inl (x5)] [.inl (z), .inl (x3), fx_f 16] M1 r M') : Ev X 42 46 [fx_f 9, fx_f a, .inl (x2), .inl (x3), .inl (x4), .inl (x5)] [] M r M' := by
  refine Ev.run 4 fd_e42 (i' := 50) (ls' := [fx_f 9, fx_f a, .inl (x2), .inl (x3), .inl (x4), .inl (x5)]) (st' := [.inl (x4), .inl (x3), fx_f 16]) (M1 := M) rfl ?_
  refine Ev.callS (vs := [.inl (x4)]) (rest := [.inl (x3), fx_f 16]) (r1 := (some (.inl z))) fd_e42 rfl rfl rfl (Nat.le_of_ble_eq_true rfl) (Nat.le_of_ble_eq_true rfl) hc ?_
  exact k
theorem r42_51T {X : fx_Sc} {M M' : fx_M} {r : Option fx_V} {a : Nat} {x2 x3 x4 x5 s1 s2 : Int} (g : (-2147483648 ≤ s2 ∧ s2 < 2147483648) ∧ (-2147483648 ≤ x2 ∧ x2 < 2147483648)) (h : s2 ≠ x2) (k : Ev X 42 55 [fx_f 9, fx_f a, .inl (x2), .inl (x3), .inl (x4), .inl (x5)] [.inl (s1), fx_f 16] M r M') : Ev X 42 51 [fx_f 9, fx_f a, .inl (x2), .inl (x3), .inl (x4), .inl (x5)] [.inl (s2), .inl (s1), fx_f 16] M r M' := by
  refine Ev.run 1 fd_e42 (i' := 52) (ls' := [fx_f 9, fx_f a, .inl (x2), .inl (x3), .inl (x4), .inl (x5)]) (st' := [.inl (x2), .inl (s2), .inl (s1), fx_f 16]) (M1 := M) rfl ?_
  refine Ev.icT fd_e42 rfl g.1 g.2 (decide_eq_true h) ?_
  exact k
theorem r42_51F {X : fx_Sc} {M M' : fx_M} {r : Option fx_V} {a : Nat} {x2 x3 x4 x5 s1 s2 : Int} (g : (-2147483648 ≤ s2 ∧ s2 < 2147483648) ∧ (-2147483648 ≤ x2 ∧ x2 < 2147483648)) (h : s2 = x2) (k : Ev X 42 53 [fx_f 9, fx_f a, .inl (x2), .inl (x3), .inl (x4), .inl (x5)] [.inl (s1), fx_f 16] M r M') : Ev X 42 51 [fx_f 9, fx_f a, .inl (x2), .inl (x3), .inl (x4), .inl (x5)] [.inl (s2), .inl (s1), fx_f 16] M r M' := by
  refine Ev.run 1 fd_e42 (i' := 52) (ls' := [fx_f 9, fx_f a, .inl (x2), .inl (x3), .inl (x4), .inl (x5)]) (st' := [.inl (x2), .inl (s2), .inl (s1), fx_f 16]) (M1 := M) rfl ?_
  refine Ev.icF fd_e42 rfl g.1 g.2 (decide_eq_false (not_not_intro h)) ?_
  exact k
theorem r42_53T {X : fx_Sc} {M M' : fx_M} {r : Option fx_V} {a : Nat} {x2 x3 x4 x5 s1 : Int} (g : (0 ≤ s1 ∧ s1 < ((72 : Nat) : Int)) ∧ (0 ≤ x3 ∧ x3 < ((72 : Nat) : Int)) ∧ (-2147483648 ≤ ((fx_set M 16 (fx_up (M 16) (s1).toNat 1)) 16 (x3).toNat) ∧ ((fx_set M 16 (fx_up (M 16) (s1).toNat 1)) 16 (x3).toNat) < 2147483648)) (h : ((fx_set M 16 (fx_up (M 16) (s1).toNat 1)) 16 (x3).toNat) = 0) (k : Ev X 42 67 [fx_f 9, fx_f a, .inl (x2), .inl (x3), .inl (x4), .inl (x5)] [.inl (x3), fx_f 14] (fx_set M 16 (fx_up (M 16) (s1).toNat 1)) r M') : Ev X 42 53 [fx_f 9, fx_f a, .inl (x2), .inl (x3), .inl (x4), .inl (x5)] [.inl (s1), fx_f 16] M r M' := by
  refine Ev.run 2 fd_e42 (i' := 56) (ls' := [fx_f 9, fx_f a, .inl (x2), .inl (x3), .inl (x4), .inl (x5)]) (st' := [.inl (1), .inl (s1), fx_f 16]) (M1 := M) rfl ?_
  refine Ev.bast fd_e42 rfl rfl (by decide) g.1 (by decide) ?_
  refine Ev.run 6 fd_e42 (i' := 63) (ls' := [fx_f 9, fx_f a, .inl (x2), .inl (x3), .inl (x4), .inl (x5)]) (st' := [.inl (x3), fx_f 16, .inl (x3), fx_f 14]) (M1 := (fx_set M 16 (fx_up (M 16) (s1).toNat 1))) rfl ?_
  refine Ev.bald fd_e42 rfl rfl (by decide) g.2.1 ?_
  refine Ev.ifT fd_e42 rfl g.2.2 (decide_eq_true h) ?_
  exact k
theorem r42_53F {X : fx_Sc} {M M' : fx_M} {r : Option fx_V} {a : Nat} {x2 x3 x4 x5 s1 : Int} (g : (0 ≤ s1 ∧ s1 < ((72 : Nat) : Int)) ∧ (0 ≤ x3 ∧ x3 < ((72 : Nat) : Int)) ∧ (-2147483648 ≤ ((fx_set M 16 (fx_up (M 16) (s1).toNat 1)) 16 (x3).toNat) ∧ ((fx_set M 16 (fx_up (M 16) (s1).toNat 1)) 16 (x3).toNat) < 2147483648)) (h : ((fx_set M 16 (fx_up (M 16) (s1).toNat 1)) 16 (x3).toNat) ≠ 0) (k : Ev X 42 65 [fx_f 9, fx_f a, .inl (x2), .inl (x3), .inl (x4), .inl (x5)] [.inl (x3), fx_f 14] (fx_set M 16 (fx_up (M 16) (s1).toNat 1)) r M') : Ev X 42 53 [fx_f 9, fx_f a, .inl (x2), .inl (x3), .inl (x4), .inl (x5)] [.inl (s1), fx_f 16] M r M' := by
  refine Ev.run 2 fd_e42 (i' := 56) (ls' := [fx_f 9, fx_f a, .inl (x2), .inl (x3), .inl (x4), .inl (x5)]) (st' := [.inl (1), .inl (s1), fx_f 16]) (M1 := M) rfl ?_
  refine Ev.bast fd_e42 rfl rfl (by decide) g.1 (by decide) ?_
  refine Ev.run 6 fd_e42 (i' := 63) (ls' := [fx_f 9, fx_f a, .inl (x2), .inl (x3), .inl (x4), .inl (x5)]) (st' := [.inl (x3), fx_f 16, .inl (x3), fx_f 14]) (M1 := (fx_set M 16 (fx_up (M 16) (s1).toNat 1))) rfl ?_
  refine Ev.bald fd_e42 rfl rfl (by decide) g.2.1 ?_
  refine Ev.ifF fd_e42 rfl g.2.2 (decide_eq_false h) ?_
  exact k
theorem r42_55T {X : fx_Sc} {M M' : fx_M} {r : Option fx_V} {a : Nat} {x2 x3 x4 x5 s1 : Int} (g : (0 ≤ s1 ∧ s1 < ((72 : Nat) : Int)) ∧ (0 ≤ x3 ∧ x3 < ((72 : Nat) : Int)) ∧ (-2147483648 ≤ ((fx_set M 16 (fx_up (M 16) (s1).toNat 0)) 16 (x3).toNat) ∧ ((fx_set M 16 (fx_up (M 16) (s1).toNat 0)) 16 (x3).toNat) < 2147483648)) (h : ((fx_set M 16 (fx_up (M 16) (s1).toNat 0)) 16 (x3).toNat) = 0) (k : Ev X 42 67 [fx_f 9, fx_f a, .inl (x2), .inl (x3), .inl (x4), .inl (x5)] [.inl (x3), fx_f 14] (fx_set M 16 (fx_up (M 16) (s1).toNat 0)) r M') : Ev X 42 55 [fx_f 9, fx_f a, .inl (x2), .inl (x3), .inl (x4), .inl (x5)] [.inl (s1), fx_f 16] M r M' := by
  refine Ev.run 1 fd_e42 (i' := 56) (ls' := [fx_f 9, fx_f a, .inl (x2), .inl (x3), .inl (x4), .inl (x5)]) (st' := [.inl (0), .inl (s1), fx_f 16]) (M1 := M) rfl ?_
  refine Ev.bast fd_e42 rfl rfl (by decide) g.1 (by decide) ?_
  refine Ev.run 6 fd_e42 (i' := 63) (ls' := [fx_f 9, fx_f a, .inl (x2), .inl (x3), .inl (x4), .inl (x5)]) (st' := [.inl (x3), fx_f 16, .inl (x3), fx_f 14]) (M1 := (fx_set M 16 (fx_up (M 16) (s1).toNat 0))) rfl ?_
  refine Ev.bald fd_e42 rfl rfl (by decide) g.2.1 ?_
  refine Ev.ifT fd_e42 rfl g.2.2 (decide_eq_true h) ?_
  exact k
theorem r42_55F {X : fx_Sc} {M M' : fx_M} {r : Option fx_V} {a : Nat} {x2 x3 x4 x5 s1 : Int} (g : (0 ≤ s1 ∧ s1 < ((72 : Nat) : Int)) ∧ (0 ≤ x3 ∧ x3 < ((72 : Nat) : Int)) ∧ (-2147483648 ≤ ((fx_set M 16 (fx_up (M 16) (s1).toNat 0)) 16 (x3).toNat) ∧ ((fx_set M 16 (fx_up (M 16) (s1).toNat 0)) 16 (x3).toNat) < 2147483648)) (h : ((fx_set M 16 (fx_up (M 16) (s1).toNat 0)) 16 (x3).toNat) ≠ 0) (k : Ev X 42 65 [fx_f 9, fx_f a, .inl (x2), .inl (x3), .inl (x4), .inl (x5)] [.inl (x3), fx_f 14] (fx_set M 16 (fx_up (M 16) (s1).toNat 0)) r M') : Ev X 42 55 [fx_f 9, fx_f a, .inl (x2), .inl (x3), .inl (x4), .inl (x5)] [.inl (s1), fx_f 16] M r M' := by
  refine Ev.run 1 fd_e42 (i' := 56) (ls' := [fx_f 9, fx_f a, .inl (x2), .inl (x3), .inl (x4), .inl (x5)]) (st' := [.inl (0), .inl (s1), fx_f 16]) (M1 := M) rfl ?_
  refine Ev.bast fd_e42 rfl rfl (by decide) g.1 (by decide) ?_
  refine Ev.run 6 fd_e42 (i' := 63) (ls' := [fx_f 9, fx_f a, .inl (x2), .inl (x3), .inl (x4), .inl (x5)]) (st' := [.inl (x3), fx_f 16, .inl (x3), fx_f 14]) (M1 := (fx_set M 16 (fx_up (M 16) (s1).toNat 0))) rfl ?_
  refine Ev.bald fd_e42 rfl rfl (by decide) g.2.1 ?_
  refine Ev.ifF fd_e42 rfl g.2.2 (decide_eq_false h) ?_
  exact k
theorem r42_65T {X : fx_Sc} {M M' : fx_M} {r : Option fx_V} {a : Nat} {x2 x3 x4 x5 s1 : Int} (g : (0 ≤ s1 ∧ s1 < ((72 : Nat) : Int)) ∧ (0 ≤ x3 ∧ x3 < ((72 : Nat) : Int)) ∧ (-2147483648 ≤ ((fx_set M 14 (fx_up (M 14) (s1).toNat (-6))) 16 (x3).toNat) ∧ ((fx_set M 14 (fx_up (M 14) (s1).toNat (-6))) 16 (x3).toNat) < 2147483648)) (h : ((fx_set M 14 (fx_up (M 14) (s1).toNat (-6))) 16 (x3).toNat) = 0) (k : Ev X 42 81 [fx_f 9, fx_f a, .inl (x2), .inl (x3), .inl (x4), .inl (x5)] [.inl (x3), fx_f 15] (fx_set M 14 (fx_up (M 14) (s1).toNat (-6))) r M') : Ev X 42 65 [fx_f 9, fx_f a, .inl (x2), .inl (x3), .inl (x4), .inl (x5)] [.inl (s1), fx_f 14] M r M' := by
  refine Ev.run 2 fd_e42 (i' := 70) (ls' := [fx_f 9, fx_f a, .inl (x2), .inl (x3), .inl (x4), .inl (x5)]) (st' := [.inl ((-6)), .inl (s1), fx_f 14]) (M1 := M) rfl ?_
  refine Ev.iast fd_e42 rfl rfl (by decide) g.1 ?_
  refine Ev.run 6 fd_e42 (i' := 77) (ls' := [fx_f 9, fx_f a, .inl (x2), .inl (x3), .inl (x4), .inl (x5)]) (st' := [.inl (x3), fx_f 16, .inl (x3), fx_f 15]) (M1 := (fx_set M 14 (fx_up (M 14) (s1).toNat (-6)))) rfl ?_
  refine Ev.bald fd_e42 rfl rfl (by decide) g.2.1 ?_
  refine Ev.ifT fd_e42 rfl g.2.2 (decide_eq_true h) ?_
  exact k
theorem r42_65F {X : fx_Sc} {M M' : fx_M} {r : Option fx_V} {a : Nat} {x2 x3 x4 x5 s1 : Int} (g : (0 ≤ s1 ∧ s1 < ((72 : Nat) : Int)) ∧ (0 ≤ x3 ∧ x3 < ((72 : Nat) : Int)) ∧ (-2147483648 ≤ ((fx_set M 14 (fx_up (M 14) (s1).toNat (-6))) 16 (x3).toNat) ∧ ((fx_set M 14 (fx_up (M 14) (s1).toNat (-6))) 16 (x3).toNat) < 2147483648)) (h : ((fx_set M 14 (fx_up (M 14) (s1).toNat (-6))) 16 (x3).toNat) ≠ 0) (k : Ev X 42 79 [fx_f 9, fx_f a, .inl (x2), .inl (x3), .inl (x4), .inl (x5)] [.inl (x3), fx_f 15] (fx_set M 14 (fx_up (M 14) (s1).toNat (-6))) r M') : Ev X 42 65 [fx_f 9, fx_f a, .inl (x2), .inl (x3), .inl (x4), .inl (x5)] [.inl (s1), fx_f 14] M r M' := by
  refine Ev.run 2 fd_e42 (i' := 70) (ls' := [fx_f 9, fx_f a, .inl (x2), .inl (x3), .inl (x4), .inl (x5)]) (st' := [.inl ((-6)), .inl (s1), fx_f 14]) (M1 := M) rfl ?_
  refine Ev.iast fd_e42 rfl rfl (by decide) g.1 ?_
  refine Ev.run 6 fd_e42 (i' := 77) (ls' := [fx_f 9, fx_f a, .inl (x2), .inl (x3), .inl (x4), .inl (x5)]) (st' := [.inl (x3), fx_f 16, .inl (x3), fx_f 15]) (M1 := (fx_set M 14 (fx_up (M 14) (s1).toNat (-6)))) rfl ?_
  refine Ev.bald fd_e42 rfl rfl (by decide) g.2.1 ?_
  refine Ev.ifF fd_e42 rfl g.2.2 (decide_eq_false h) ?_
  exact k
theorem r42_67T {X : fx_Sc} {M M' : fx_M} {r : Option fx_V} {a : Nat} {x2 x3 x4 x5 s1 : Int} (g : (-2147483648 ≤ x4 ∧ x4 < 2147483648) ∧ (-2147483648 ≤ x5 ∧ x5 < 2147483648) ∧ (0 ≤ s1 ∧ s1 < ((72 : Nat) : Int)) ∧ (0 ≤ x3 ∧ x3 < ((72 : Nat) : Int)) ∧ (-2147483648 ≤ ((fx_set M 14 (fx_up (M 14) (s1).toNat (if x5 < x4 then x5 else x4))) 16 (x3).toNat) ∧ ((fx_set M 14 (fx_up (M 14) (s1).toNat (if x5 < x4 then x5 else x4))) 16 (x3).toNat) < 2147483648)) (h : ((fx_set M 14 (fx_up (M 14) (s1).toNat (if x5 < x4 then x5 else x4))) 16 (x3).toNat) = 0) (k : Ev X 42 81 [fx_f 9, fx_f a, .inl (x2), .inl (x3), .inl (x4), .inl (x5)] [.inl (x3), fx_f 15] (fx_set M 14 (fx_up (M 14) (s1).toNat (if x5 < x4 then x5 else x4))) r M') : Ev X 42 67 [fx_f 9, fx_f a, .inl (x2), .inl (x3), .inl (x4), .inl (x5)] [.inl (s1), fx_f 14] M r M' := by
  refine Ev.run 2 fd_e42 (i' := 69) (ls' := [fx_f 9, fx_f a, .inl (x2), .inl (x3), .inl (x4), .inl (x5)]) (st' := [.inl (x5), .inl (x4), .inl (s1), fx_f 14]) (M1 := M) rfl ?_
  refine Ev.min fd_e42 rfl g.1 g.2.1 (Nat.le_of_ble_eq_true rfl) ?_
  refine Ev.iast fd_e42 rfl rfl (by decide) g.2.2.1 ?_
  refine Ev.run 6 fd_e42 (i' := 77) (ls' := [fx_f 9, fx_f a, .inl (x2), .inl (x3), .inl (x4), .inl (x5)]) (st' := [.inl (x3), fx_f 16, .inl (x3), fx_f 15]) (M1 := (fx_set M 14 (fx_up (M 14) (s1).toNat (if x5 < x4 then x5 else x4)))) rfl ?_
  refine Ev.bald fd_e42 rfl rfl (by decide) g.2.2.2.1 ?_
  refine Ev.ifT fd_e42 rfl g.2.2.2.2 (decide_eq_true h) ?_
  exact k
theorem r42_67F {X : fx_Sc} {M M' : fx_M} {r : Option fx_V} {a : Nat} {x2 x3 x4 x5 s1 : Int} (g : (-2147483648 ≤ x4 ∧ x4 < 2147483648) ∧ (-2147483648 ≤ x5 ∧ x5 < 2147483648) ∧ (0 ≤ s1 ∧ s1 < ((72 : Nat) : Int)) ∧ (0 ≤ x3 ∧ x3 < ((72 : Nat) : Int)) ∧ (-2147483648 ≤ ((fx_set M 14 (fx_up (M 14) (s1).toNat (if x5 < x4 then x5 else x4))) 16 (x3).toNat) ∧ ((fx_set M 14 (fx_up (M 14) (s1).toNat (if x5 < x4 then x5 else x4))) 16 (x3).toNat) < 2147483648)) (h : ((fx_set M 14 (fx_up (M 14) (s1).toNat (if x5 < x4 then x5 else x4))) 16 (x3).toNat) ≠ 0) (k : Ev X 42 79 [fx_f 9, fx_f a, .inl (x2), .inl (x3), .inl (x4), .inl (x5)] [.inl (x3), fx_f 15] (fx_set M 14 (fx_up (M 14) (s1).toNat (if x5 < x4 then x5 else x4))) r M') : Ev X 42 67 [fx_f 9, fx_f a, .inl (x2), .inl (x3), .inl (x4), .inl (x5)] [.inl (s1), fx_f 14] M r M' := by
  refine Ev.run 2 fd_e42 (i' := 69) (ls' := [fx_f 9, fx_f a, .inl (x2), .inl (x3), .inl (x4), .inl (x5)]) (st' := [.inl (x5), .inl (x4), .inl (s1), fx_f 14]) (M1 := M) rfl ?_
  refine Ev.min fd_e42 rfl g.1 g.2.1 (Nat.le_of_ble_eq_true rfl) ?_
  refine Ev.iast fd_e42 rfl rfl (by decide) g.2.2.1 ?_
  refine Ev.run 6 fd_e42 (i' := 77) (ls' := [fx_f 9, fx_f a, .inl (x2), .inl (x3), .inl (x4), .inl (x5)]) (st' := [.inl (x3), fx_f 16, .inl (x3), fx_f 15]) (M1 := (fx_set M 14 (fx_up (M 14) (s1).toNat (if x5 < x4 then x5 else x4)))) rfl ?_
  refine Ev.bald fd_e42 rfl rfl (by decide) g.2.2.2.1 ?_
  refine Ev.ifF fd_e42 rfl g.2.2.2.2 (decide_eq_false h) ?_
  exact k
theorem r42_79 {X : fx_Sc} {M : fx_M} {a : Nat} {x2 x3 x4 x5 s1 : Int} (g : (0 ≤ s1 ∧ s1 < ((72 : Nat) : Int))) : Ev X 42 79 [fx_f 9, fx_f a, .inl (x2), .inl (x3), .inl (x4), .inl (x5)] [.inl (s1), fx_f 15] M none (fx_set M 15 (fx_up (M 15) (s1).toNat (-6))) := by
  refine Ev.run 2 fd_e42 (i' := 84) (ls' := [fx_f 9, fx_f a, .inl (x2), .inl (x3), .inl (x4), .inl (x5)]) (st' := [.inl ((-6)), .inl (s1), fx_f 15]) (M1 := M) rfl ?_
  refine Ev.iast fd_e42 rfl rfl (by decide) g ?_
  exact Ev.retv fd_e42 rfl rfl
theorem r42_81 {X : fx_Sc} {M : fx_M} {a : Nat} {x2 x3 x4 x5 s1 : Int} (g : (-2147483648 ≤ x4 ∧ x4 < 2147483648) ∧ (-2147483648 ≤ x5 ∧ x5 < 2147483648) ∧ (0 ≤ s1 ∧ s1 < ((72 : Nat) : Int))) : Ev X 42 81 [fx_f 9, fx_f a, .inl (x2), .inl (x3), .inl (x4), .inl (x5)] [.inl (s1), fx_f 15] M none (fx_set M 15 (fx_up (M 15) (s1).toNat (if x4 < x5 then x5 else x4))) := by
  refine Ev.run 2 fd_e42 (i' := 83) (ls' := [fx_f 9, fx_f a, .inl (x2), .inl (x3), .inl (x4), .inl (x5)]) (st' := [.inl (x5), .inl (x4), .inl (s1), fx_f 15]) (M1 := M) rfl ?_
  refine Ev.max fd_e42 rfl g.1 g.2.1 (Nat.le_of_ble_eq_true rfl) ?_
  refine Ev.iast fd_e42 rfl rfl (by decide) g.2.2 ?_
  exact Ev.retv fd_e42 rfl rfl
-- 43: FoldedStrips$Lines.isIndex(I)Z
theorem fd_e43 : fd_C 43 = fd_c43 := rfl
theorem r43_0T {X : fx_Sc} {M M' : fx_M} {r : Option fx_V} {x0 : Int} (g : (-2147483648 ≤ x0 ∧ x0 < 2147483648)) (h : x0 < 0) (k : Ev X 43 7 [.inl (x0)] [] M r M') : Ev X 43 0 [.inl (x0)] [] M r M' := by
  refine Ev.run 1 fd_e43 (i' := 1) (ls' := [.inl (x0)]) (st' := [.inl (x0)]) (M1 := M) rfl ?_
  refine Ev.ifT fd_e43 rfl g (decide_eq_true h) ?_
  exact k
theorem r43_0F {X : fx_Sc} {M M' : fx_M} {r : Option fx_V} {x0 : Int} (g : (-2147483648 ≤ x0 ∧ x0 < 2147483648)) (h : 0 ≤ x0) (k : Ev X 43 2 [.inl (x0)] [] M r M') : Ev X 43 0 [.inl (x0)] [] M r M' := by
  refine Ev.run 1 fd_e43 (i' := 1) (ls' := [.inl (x0)]) (st' := [.inl (x0)]) (M1 := M) rfl ?_
  refine Ev.ifF fd_e43 rfl g (decide_eq_false (Int.not_lt.mpr h)) ?_
  exact k
theorem r43_2T {X : fx_Sc} {M M' : fx_M} {r : Option fx_V} {x0 : Int} (g : (-2147483648 ≤ x0 ∧ x0 < 2147483648)) (h : 72 ≤ x0) (k : Ev X 43 7 [.inl (x0)] [] M r M') : Ev X 43 2 [.inl (x0)] [] M r M' := by
  refine Ev.run 2 fd_e43 (i' := 4) (ls' := [.inl (x0)]) (st' := [.inl (72), .inl (x0)]) (M1 := M) rfl ?_
  refine Ev.icT fd_e43 rfl g (by decide) (decide_eq_true h) ?_
  exact k
theorem r43_2F {X : fx_Sc} {M M' : fx_M} {r : Option fx_V} {x0 : Int} (g : (-2147483648 ≤ x0 ∧ x0 < 2147483648)) (h : x0 < 72) (k : Ev X 43 5 [.inl (x0)] [] M r M') : Ev X 43 2 [.inl (x0)] [] M r M' := by
  refine Ev.run 2 fd_e43 (i' := 4) (ls' := [.inl (x0)]) (st' := [.inl (72), .inl (x0)]) (M1 := M) rfl ?_
  refine Ev.icF fd_e43 rfl g (by decide) (decide_eq_false (Int.not_le.mpr h)) ?_
  exact k
theorem r43_5 {X : fx_Sc} {M : fx_M} {x0 : Int} : Ev X 43 5 [.inl (x0)] [] M (some (.inl (1))) M := by
  refine Ev.run 2 fd_e43 (i' := 8) (ls' := [.inl (x0)]) (st' := [.inl (1)]) (M1 := M) rfl ?_
  exact Ev.ret2 fd_e43 rfl rfl (by decide)
theorem r43_7 {X : fx_Sc} {M : fx_M} {x0 : Int} : Ev X 43 7 [.inl (x0)] [] M (some (.inl (0))) M := by
  refine Ev.run 1 fd_e43 (i' := 8) (ls' := [.inl (x0)]) (st' := [.inl (0)]) (M1 := M) rfl ?_
  exact Ev.ret2 fd_e43 rfl rfl (by decide)
-- 44: FoldedStrips$Lines.follow(LFoldedStrips$Strip;II)I
theorem fd_e44 : fd_C 44 = fd_c44 := rfl
theorem r44_0 {X : fx_Sc} {M M' : fx_M} {r : Option fx_V} {a : Nat} {x2 x3 : Int} (k : Ev X 44 6 [fx_f 9, fx_f a, .inl (x2), .inl (x3), .inl (x3), .inl ((-1)), .inl (0)] [] M r M') : Ev X 44 0 [fx_f 9, fx_f a, .inl (x2), .inl (x3), fx_u, fx_u, fx_u] [] M r M' := by
  refine Ev.run 6 fd_e44 (i' := 6) (ls' := [fx_f 9, fx_f a, .inl (x2), .inl (x3), .inl (x3), .inl ((-1)), .inl (0)]) (st' := []) (M1 := M) rfl ?_
  exact k
theorem r44_6T {X : fx_Sc} {M M' : fx_M} {r : Option fx_V} {a : Nat} {x2 x3 x4 x5 x6 : Int} (g : (-2147483648 ≤ x6 ∧ x6 < 2147483648)) (h : 72 ≤ x6) (k : Ev X 44 36 [fx_f 9, fx_f a, .inl (x2), .inl (x3), .inl (x4), .inl (x5), .inl (x6)] [] M r M') : Ev X 44 6 [fx_f 9, fx_f a, .inl (x2), .inl (x3), .inl (x4), .inl (x5), .inl (x6)] [] M r M' := by
  refine Ev.run 2 fd_e44 (i' := 8) (ls' := [fx_f 9, fx_f a, .inl (x2), .inl (x3), .inl (x4), .inl (x5), .inl (x6)]) (st' := [.inl (72), .inl (x6)]) (M1 := M) rfl ?_
  refine Ev.icT fd_e44 rfl g (by decide) (decide_eq_true h) ?_
  exact k
theorem r44_6F {X : fx_Sc} {M M' : fx_M} {r : Option fx_V} {a : Nat} {x2 x3 x4 x5 x6 : Int} (g : (-2147483648 ≤ x6 ∧ x6 < 2147483648)) (h : x6 < 72) (k : Ev X 44 9 [fx_f 9, fx_f a, .inl (x2), .inl (x3), .inl (x4), .inl (x5), .inl (x6)] [] M r M') : Ev X 44 6 [fx_f 9, fx_f a, .inl (x2), .inl (x3), .inl (x4), .inl (x5), .inl (x6)] [] M r M' := by
  refine Ev.run 2 fd_e44 (i' := 8) (ls' := [fx_f 9, fx_f a, .inl (x2), .inl (x3), .inl (x4), .inl (x5), .inl (x6)]) (st' := [.inl (72), .inl (x6)]) (M1 := M) rfl ?_
  refine Ev.icF fd_e44 rfl g (by decide) (decide_eq_false (Int.not_le.mpr h)) ?_
  exact k
theorem r44_9 {X : fx_Sc} {M M' : fx_M} {r : Option fx_V} {a : Nat} {x2 x3 x4 x5 x6 z : Int} {M1 : fx_M} (ha : fd_isS a) (hc : Ev X 83 0 [fx_f a, .inl (x4)] [] M (some (.inl z)) M1) (k : Ev X 44 12 [fx_f 9, fx_f a, .inl (x2), .inl (x3), .inl (x4), .inl (x5), .inl (x6)] [.inl (z)] M1 r M') : Ev X 44 9 [fx_f 9, fx_f a, .inl (x2), .inl (x3), .inl (x4), .inl (x5), .inl (x6)] [] M r M' := by
  refine Ev.run 2 fd_e44 (i' := 11) (ls' := [fx_f 9, fx_f a, .inl (x2), .inl (x3), .inl (x4), .inl (x5), .inl (x6)]) (st' := [.inl (x4), fx_f a]) (M1 := M) rfl ?_
  refine Ev.callV (vs := [fx_f a, .inl (x4)]) (rest := []) (r1 := (some (.inl z))) fd_e44 rfl rfl rfl (Nat.le_of_ble_eq_true rfl) (Nat.le_of_ble_eq_true rfl) (fd_rcvS ha) hc ?_
  exact k
theorem r44_12T {X : fx_Sc} {M M' : fx_M} {r : Option fx_V} {a : Nat} {x2 x3 x4 x5 x6 s0 : Int} (g : (-2147483648 ≤ s0 ∧ s0 < 2147483648)) (h : s0 = 0) (k : Ev X 44 19 [fx_f 9, fx_f a, .inl (x2), .inl (x3), .inl (x4), .inl (x5), .inl (x6)] [] M r M') : Ev X 44 12 [fx_f 9, fx_f a, .inl (x2), .inl (x3), .inl (x4), .inl (x5), .inl (x6)] [.inl (s0)] M r M' := by
  refine Ev.ifT fd_e44 rfl g (decide_eq_true h) ?_
  exact k
theorem r44_12F {X : fx_Sc} {M M' : fx_M} {r : Option fx_V} {a : Nat} {x2 x3 x4 x5 x6 s0 : Int} (g : (-2147483648 ≤ s0 ∧ s0 < 2147483648)) (h : s0 ≠ 0) (k : Ev X 44 13 [fx_f 9, fx_f a, .inl (x2), .inl (x3), .inl (x4), .inl (x5), .inl (x6)] [] M r M') : Ev X 44 12 [fx_f 9, fx_f a, .inl (x2), .inl (x3), .inl (x4), .inl (x5), .inl (x6)] [.inl (s0)] M r M' := by
  refine Ev.ifF fd_e44 rfl g (decide_eq_false h) ?_
  exact k
theorem r44_13T {X : fx_Sc} {M M' : fx_M} {r : Option fx_V} {a : Nat} {x2 x3 x4 x5 x6 : Int} (g : (0 ≤ x4 ∧ x4 < ((144 : Nat) : Int)) ∧ (-2147483648 ≤ (M 10 (x4).toNat) ∧ (M 10 (x4).toNat) < 2147483648)) (h : (M 10 (x4).toNat) = (-1)) (k : Ev X 44 21 [fx_f 9, fx_f a, .inl (x2), .inl (x3), .inl (x4), .inl (x5), .inl (x6)] [] M r M') : Ev X 44 13 [fx_f 9, fx_f a, .inl (x2), .inl (x3), .inl (x4), .inl (x5), .inl (x6)] [] M r M' := by
  refine Ev.run 3 fd_e44 (i' := 16) (ls' := [fx_f 9, fx_f a, .inl (x2), .inl (x3), .inl (x4), .inl (x5), .inl (x6)]) (st' := [.inl (x4), fx_f 10]) (M1 := M) rfl ?_
  refine Ev.iald fd_e44 rfl rfl (by decide) g.1 ?_
  refine Ev.run 1 fd_e44 (i' := 18) (ls' := [fx_f 9, fx_f a, .inl (x2), .inl (x3), .inl (x4), .inl (x5), .inl (x6)]) (st' := [.inl ((-1)), .inl ((M 10 (x4).toNat))]) (M1 := M) rfl ?_
  refine Ev.icT fd_e44 rfl g.2 (by decide) (decide_eq_true h) ?_
  exact k
theorem r44_13F {X : fx_Sc} {M M' : fx_M} {r : Option fx_V} {a : Nat} {x2 x3 x4 x5 x6 : Int} (g : (0 ≤ x4 ∧ x4 < ((144 : Nat) : Int)) ∧ (-2147483648 ≤ (M 10 (x4).toNat) ∧ (M 10 (x4).toNat) < 2147483648)) (h : (M 10 (x4).toNat) ≠ (-1)) (k : Ev X 44 19 [fx_f 9, fx_f a, .inl (x2), .inl (x3), .inl (x4), .inl (x5), .inl (x6)] [] M r M') : Ev X 44 13 [fx_f 9, fx_f a, .inl (x2), .inl (x3), .inl (x4), .inl (x5), .inl (x6)] [] M r M' := by
  refine Ev.run 3 fd_e44 (i' := 16) (ls' := [fx_f 9, fx_f a, .inl (x2), .inl (x3), .inl (x4), .inl (x5), .inl (x6)]) (st' := [.inl (x4), fx_f 10]) (M1 := M) rfl ?_
  refine Ev.iald fd_e44 rfl rfl (by decide) g.1 ?_
  refine Ev.run 1 fd_e44 (i' := 18) (ls' := [fx_f 9, fx_f a, .inl (x2), .inl (x3), .inl (x4), .inl (x5), .inl (x6)]) (st' := [.inl ((-1)), .inl ((M 10 (x4).toNat))]) (M1 := M) rfl ?_
  refine Ev.icF fd_e44 rfl g.2 (by decide) (decide_eq_false h) ?_
  exact k
theorem r44_19 {X : fx_Sc} {M : fx_M} {a : Nat} {x2 x3 x4 x5 x6 : Int} : Ev X 44 19 [fx_f 9, fx_f a, .inl (x2), .inl (x3), .inl (x4), .inl (x5), .inl (x6)] [] M (some (.inl (x5))) M := by
  refine Ev.run 1 fd_e44 (i' := 20) (ls' := [fx_f 9, fx_f a, .inl (x2), .inl (x3), .inl (x4), .inl (x5), .inl (x6)]) (st' := [.inl (x5)]) (M1 := M) rfl ?_
  exact Ev.ret1 fd_e44 rfl rfl
theorem r44_21 {X : fx_Sc} {M M' : fx_M} {r : Option fx_V} {a : Nat} {x2 x3 x4 x5 x6 z : Int} {M1 : fx_M} (ha : fd_isS a) (hc : Ev X 98 0 [fx_f a, .inl (x4), fx_u] [] M (some (.inl z)) M1) (k : Ev X 44 24 [fx_f 9, fx_f a, .inl (x2), .inl (x3), .inl (x4), .inl (x5), .inl (x6)] [.inl (z)] M1 r M') : Ev X 44 21 [fx_f 9, fx_f a, .inl (x2), .inl (x3), .inl (x4), .inl (x5), .inl (x6)] [] M r M' := by
  refine Ev.run 2 fd_e44 (i' := 23) (ls' := [fx_f 9, fx_f a, .inl (x2), .inl (x3), .inl (x4), .inl (x5), .inl (x6)]) (st' := [.inl (x4), fx_f a]) (M1 := M) rfl ?_
  refine Ev.callV (vs := [fx_f a, .inl (x4)]) (rest := []) (r1 := (some (.inl z))) fd_e44 rfl rfl rfl (Nat.le_of_ble_eq_true rfl) (Nat.le_of_ble_eq_true rfl) (fd_rcvS ha) hc ?_
  exact k
theorem r44_24 {X : fx_Sc} {M M' : fx_M} {r : Option fx_V} {a : Nat} {x2 x3 x4 x5 x6 s0 : Int} {M1 : fx_M} (hc : Ev X 45 0 [fx_f 9, fx_f a, .inl (x2), .inl (x4), .inl (s0)] [] M none M1) (k : Ev X 44 31 [fx_f 9, fx_f a, .inl (x2), .inl (x3), .inl (x4), .inl (s0), .inl (x6)] [] M1 r M') : Ev X 44 24 [fx_f 9, fx_f a, .inl (x2), .inl (x3), .inl (x4), .inl (x5), .inl (x6)] [.inl (s0)] M r M' := by
  refine Ev.run 6 fd_e44 (i' := 30) (ls' := [fx_f 9, fx_f a, .inl (x2), .inl (x3), .inl (x4), .inl (s0), .inl (x6)]) (st' := [.inl (s0), .inl (x4), .inl (x2), fx_f a, fx_f 9]) (M1 := M) rfl ?_
  refine Ev.callV (vs := [fx_f 9, fx_f a, .inl (x2), .inl (x4), .inl (s0)]) (rest := []) (r1 := none) fd_e44 rfl rfl rfl (Nat.le_of_ble_eq_true rfl) (Nat.le_of_ble_eq_true rfl) rfl hc ?_
  exact k
theorem r44_31 {X : fx_Sc} {M M' : fx_M} {r : Option fx_V} {a : Nat} {x2 x3 x4 x5 x6 z : Int} {M1 : fx_M} (hc : Ev X 17 0 [.inl (x5), fx_u, fx_u] [] M (some (.inl z)) M1) (k : Ev X 44 33 [fx_f 9, fx_f a, .inl (x2), .inl (x3), .inl (x4), .inl (x5), .inl (x6)] [.inl (z)] M1 r M') : Ev X 44 31 [fx_f 9, fx_f a, .inl (x2), .inl (x3), .inl (x4), .inl (x5), .inl (x6)] [] M r M' := by
  refine Ev.run 1 fd_e44 (i' := 32) (ls' := [fx_f 9, fx_f a, .inl (x2), .inl (x3), .inl (x4), .inl (x5), .inl (x6)]) (st' := [.inl (x5)]) (M1 := M) rfl ?_
  refine Ev.callS (vs := [.inl (x5)]) (rest := []) (r1 := (some (.inl z))) fd_e44 rfl rfl rfl (Nat.le_of_ble_eq_true rfl) (Nat.le_of_ble_eq_true rfl) hc ?_
  exact k
theorem r44_33 {X : fx_Sc} {M M' : fx_M} {r : Option fx_V} {a : Nat} {x2 x3 x4 x5 x6 s0 : Int} (k : Ev X 44 6 [fx_f 9, fx_f a, .inl (x2), .inl (x3), .inl (s0), .inl (x5), .inl ((x6 + 1))] [] M r M') : Ev X 44 33 [fx_f 9, fx_f a, .inl (x2), .inl (x3), .inl (x4), .inl (x5), .inl (x6)] [.inl (s0)] M r M' := by
  refine Ev.run 3 fd_e44 (i' := 6) (ls' := [fx_f 9, fx_f a, .inl (x2), .inl (x3), .inl (s0), .inl (x5), .inl ((x6 + 1))]) (st' := []) (M1 := M) rfl ?_
  exact k
theorem r44_36 {X : fx_Sc} {M : fx_M} {a : Nat} {x2 x3 x4 x5 x6 : Int} : Ev X 44 36 [fx_f 9, fx_f a, .inl (x2), .inl (x3), .inl (x4), .inl (x5), .inl (x6)] [] M (some (.inl (x5))) M := by
  refine Ev.run 1 fd_e44 (i' := 37) (ls' := [fx_f 9, fx_f a, .inl (x2), .inl (x3), .inl (x4), .inl (x5), .inl (x6)]) (st' := [.inl (x5)]) (M1 := M) rfl ?_
  exact Ev.ret1 fd_e44 rfl rfl
-- 45: FoldedStrips$Lines.take(LFoldedStrips$Strip;III)V
theorem fd_e45 : fd_C 45 = fd_c45 := rfl
theorem r45_0 {X : fx_Sc} {M M' : fx_M} {r : Option fx_V} {a : Nat} {x2 x3 x4 z : Int} {M1 : fx_M} (hc : Ev X 43 0 [.inl (x2)] [] M (some (.inl z)) M1) (k : Ev X 45 2 [fx_f 9, fx_f a, .inl (x2), .inl (x3), .inl (x4)] [.inl (z)] M1 r M') : Ev X 45 0 [fx_f 9, fx_f a, .inl (x2), .inl (x3), .inl (x4)] [] M r M' := by
  refine Ev.run 1 fd_e45 (i' := 1) (ls' := [fx_f 9, fx_f a, .inl (x2), .inl (x3), .inl (x4)]) (st' := [.inl (x2)]) (M1 := M) rfl ?_
  refine Ev.callS (vs := [.inl (x2)]) (rest := []) (r1 := (some (.inl z))) fd_e45 rfl rfl rfl (Nat.le_of_ble_eq_true rfl) (Nat.le_of_ble_eq_true rfl) hc ?_
  exact k
theorem r45_2T {X : fx_Sc} {M M' : fx_M} {r : Option fx_V} {a : Nat} {x2 x3 x4 s0 : Int} (g : (-2147483648 ≤ s0 ∧ s0 < 2147483648)) (h : s0 = 0) (k : Ev X 45 9 [fx_f 9, fx_f a, .inl (x2), .inl (x3), .inl (x4)] [] M r M') : Ev X 45 2 [fx_f 9, fx_f a, .inl (x2), .inl (x3), .inl (x4)] [.inl (s0)] M r M' := by
  refine Ev.ifT fd_e45 rfl g (decide_eq_true h) ?_
  exact k
theorem r45_2F {X : fx_Sc} {M M' : fx_M} {r : Option fx_V} {a : Nat} {x2 x3 x4 s0 : Int} (g : (-2147483648 ≤ s0 ∧ s0 < 2147483648)) (h : s0 ≠ 0) (k : Ev X 45 3 [fx_f 9, fx_f a, .inl (x2), .inl (x3), .inl (x4)] [] M r M') : Ev X 45 2 [fx_f 9, fx_f a, .inl (x2), .inl (x3), .inl (x4)] [.inl (s0)] M r M' := by
  refine Ev.ifF fd_e45 rfl g (decide_eq_false h) ?_
  exact k
theorem r45_3 {X : fx_Sc} {M M' : fx_M} {r : Option fx_V} {a : Nat} {x2 x3 x4 z : Int} {M1 : fx_M} (hc : Ev X 6 0 [.inl (x3)] [] M (some (.inl z)) M1) (k : Ev X 45 5 [fx_f 9, fx_f a, .inl (x2), .inl (x3), .inl (x4)] [.inl (z)] M1 r M') : Ev X 45 3 [fx_f 9, fx_f a, .inl (x2), .inl (x3), .inl (x4)] [] M r M' := by
  refine Ev.run 1 fd_e45 (i' := 4) (ls' := [fx_f 9, fx_f a, .inl (x2), .inl (x3), .inl (x4)]) (st' := [.inl (x3)]) (M1 := M) rfl ?_
  refine Ev.callS (vs := [.inl (x3)]) (rest := []) (r1 := (some (.inl z))) fd_e45 rfl rfl rfl (Nat.le_of_ble_eq_true rfl) (Nat.le_of_ble_eq_true rfl) hc ?_
  exact k
theorem r45_5T {X : fx_Sc} {M M' : fx_M} {r : Option fx_V} {a : Nat} {x2 x3 x4 s0 : Int} (g : (-2147483648 ≤ s0 ∧ s0 < 2147483648)) (h : s0 = 0) (k : Ev X 45 9 [fx_f 9, fx_f a, .inl (x2), .inl (x3), .inl (x4)] [] M r M') : Ev X 45 5 [fx_f 9, fx_f a, .inl (x2), .inl (x3), .inl (x4)] [.inl (s0)] M r M' := by
  refine Ev.ifT fd_e45 rfl g (decide_eq_true h) ?_
  exact k
theorem r45_5F {X : fx_Sc} {M M' : fx_M} {r : Option fx_V} {a : Nat} {x2 x3 x4 s0 : Int} (g : (-2147483648 ≤ s0 ∧ s0 < 2147483648)) (h : s0 ≠ 0) (k : Ev X 45 6 [fx_f 9, fx_f a, .inl (x2), .inl (x3), .inl (x4)] [] M r M') : Ev X 45 5 [fx_f 9, fx_f a, .inl (x2), .inl (x3), .inl (x4)] [.inl (s0)] M r M' := by
  refine Ev.ifF fd_e45 rfl g (decide_eq_false h) ?_
  exact k
theorem r45_6 {X : fx_Sc} {M M' : fx_M} {r : Option fx_V} {a : Nat} {x2 x3 x4 z : Int} {M1 : fx_M} (hc : Ev X 6 0 [.inl (x4)] [] M (some (.inl z)) M1) (k : Ev X 45 8 [fx_f 9, fx_f a, .inl (x2), .inl (x3), .inl (x4)] [.inl (z)] M1 r M') : Ev X 45 6 [fx_f 9, fx_f a, .inl (x2), .inl (x3), .inl (x4)] [] M r M' := by
  refine Ev.run 1 fd_e45 (i' := 7) (ls' := [fx_f 9, fx_f a, .inl (x2), .inl (x3), .inl (x4)]) (st' := [.inl (x4)]) (M1 := M) rfl ?_
  refine Ev.callS (vs := [.inl (x4)]) (rest := []) (r1 := (some (.inl z))) fd_e45 rfl rfl rfl (Nat.le_of_ble_eq_true rfl) (Nat.le_of_ble_eq_true rfl) hc ?_
  exact k
theorem r45_8T {X : fx_Sc} {M M' : fx_M} {r : Option fx_V} {a : Nat} {x2 x3 x4 s0 : Int} (g : (-2147483648 ≤ s0 ∧ s0 < 2147483648)) (h : s0 ≠ 0) (k : Ev X 45 10 [fx_f 9, fx_f a, .inl (x2), .inl (x3), .inl (x4)] [] M r M') : Ev X 45 8 [fx_f 9, fx_f a, .inl (x2), .inl (x3), .inl (x4)] [.inl (s0)] M r M' := by
  refine Ev.ifT fd_e45 rfl g (decide_eq_true h) ?_
  exact k
theorem r45_8F {X : fx_Sc} {M M' : fx_M} {r : Option fx_V} {a : Nat} {x2 x3 x4 s0 : Int} (g : (-2147483648 ≤ s0 ∧ s0 < 2147483648)) (h : s0 = 0) (k : Ev X 45 9 [fx_f 9, fx_f a, .inl (x2), .inl (x3), .inl (x4)] [] M r M') : Ev X 45 8 [fx_f 9, fx_f a, .inl (x2), .inl (x3), .inl (x4)] [.inl (s0)] M r M' := by
  refine Ev.ifF fd_e45 rfl g (decide_eq_false (not_not_intro h)) ?_
  exact k
theorem r45_9 {X : fx_Sc} {M : fx_M} {a : Nat} {x2 x3 x4 : Int} : Ev X 45 9 [fx_f 9, fx_f a, .inl (x2), .inl (x3), .inl (x4)] [] M none M := by
  exact Ev.retv fd_e45 rfl rfl
theorem r45_10 {X : fx_Sc} {M M' : fx_M} {r : Option fx_V} {a : Nat} {x2 x3 x4 z : Int} {M1 : fx_M} (g : (0 ≤ x3 ∧ x3 < ((144 : Nat) : Int)) ∧ (0 ≤ x4 ∧ x4 < ((144 : Nat) : Int)) ∧ (0 ≤ x2 ∧ x2 < ((72 : Nat) : Int))) (hc : Ev X 18 0 [.inl (x3)] [] (fx_set (fx_set (fx_set M 10 (fx_up (M 10) (x3).toNat x2)) 10 (fx_up ((fx_set M 10 (fx_up (M 10) (x3).toNat x2)) 10) (x4).toNat x2)) 11 (fx_up ((fx_set (fx_set M 10 (fx_up (M 10) (x3).toNat x2)) 10 (fx_up ((fx_set M 10 (fx_up (M 10) (x3).toNat x2)) 10) (x4).toNat x2)) 11) (x2).toNat (((fx_set (fx_set M 10 (fx_up (M 10) (x3).toNat x2)) 10 (fx_up ((fx_set M 10 (fx_up (M 10) (x3).toNat x2)) 10) (x4).toNat x2)) 11 (x2).toNat) + 1))) (some (.inl z)) M1) (k : Ev X 45 36 [fx_f 9, fx_f a, .inl (x2), .inl (x3), .inl (x4)] [.inl (z), .inl (1), .inl (((fx_set (fx_set (fx_set M 10 (fx_up (M 10) (x3).toNat x2)) 10 (fx_up ((fx_set M 10 (fx_up (M 10) (x3).toNat x2)) 10) (x4).toNat x2)) 11 (fx_up ((fx_set (fx_set M 10 (fx_up (M 10) (x3).toNat x2)) 10 (fx_up ((fx_set M 10 (fx_up (M 10) (x3).toNat x2)) 10) (x4).toNat x2)) 11) (x2).toNat (((fx_set (fx_set M 10 (fx_up (M 10) (x3).toNat x2)) 10 (fx_up ((fx_set M 10 (fx_up (M 10) (x3).toNat x2)) 10) (x4).toNat x2)) 11 (x2).toNat) + 1))) 12 (x2).toNat)), .inl (x2), fx_f 12] M1 r M') : Ev X 45 10 [fx_f 9, fx_f a, .inl (x2), .inl (x3), .inl (x4)] [] M r M' := by
  refine Ev.run 4 fd_e45 (i' := 14) (ls' := [fx_f 9, fx_f a, .inl (x2), .inl (x3), .inl (x4)]) (st' := [.inl (x2), .inl (x3), fx_f 10]) (M1 := M) rfl ?_
  refine Ev.iast fd_e45 rfl rfl (by decide) g.1 ?_
  refine Ev.run 4 fd_e45 (i' := 19) (ls' := [fx_f 9, fx_f a, .inl (x2), .inl (x3), .inl (x4)]) (st' := [.inl (x2), .inl (x4), fx_f 10]) (M1 := (fx_set M 10 (fx_up (M 10) (x3).toNat x2))) rfl ?_
  refine Ev.iast fd_e45 rfl rfl (by decide) g.2.1 ?_
  refine Ev.run 4 fd_e45 (i' := 24) (ls' := [fx_f 9, fx_f a, .inl (x2), .inl (x3), .inl (x4)]) (st' := [.inl (x2), fx_f 11, .inl (x2), fx_f 11]) (M1 := (fx_set (fx_set M 10 (fx_up (M 10) (x3).toNat x2)) 10 (fx_up ((fx_set M 10 (fx_up (M 10) (x3).toNat x2)) 10) (x4).toNat x2))) rfl ?_
  refine Ev.iald fd_e45 rfl rfl (by decide) g.2.2 ?_
  refine Ev.run 2 fd_e45 (i' := 27) (ls' := [fx_f 9, fx_f a, .inl (x2), .inl (x3), .inl (x4)]) (st' := [.inl ((((fx_set (fx_set M 10 (fx_up (M 10) (x3).toNat x2)) 10 (fx_up ((fx_set M 10 (fx_up (M 10) (x3).toNat x2)) 10) (x4).toNat x2)) 11 (x2).toNat) + 1)), .inl (x2), fx_f 11]) (M1 := (fx_set (fx_set M 10 (fx_up (M 10) (x3).toNat x2)) 10 (fx_up ((fx_set M 10 (fx_up (M 10) (x3).toNat x2)) 10) (x4).toNat x2))) rfl ?_
  refine Ev.iast fd_e45 rfl rfl (by decide) g.2.2 ?_
  refine Ev.run 4 fd_e45 (i' := 32) (ls' := [fx_f 9, fx_f a, .inl (x2), .inl (x3), .inl (x4)]) (st' := [.inl (x2), fx_f 12, .inl (x2), fx_f 12]) (M1 := (fx_set (fx_set (fx_set M 10 (fx_up (M 10) (x3).toNat x2)) 10 (fx_up ((fx_set M 10 (fx_up (M 10) (x3).toNat x2)) 10) (x4).toNat x2)) 11 (fx_up ((fx_set (fx_set M 10 (fx_up (M 10) (x3).toNat x2)) 10 (fx_up ((fx_set M 10 (fx_up (M 10) (x3).toNat x2)) 10) (x4).toNat x2)) 11) (x2).toNat (((fx_set (fx_set M 10 (fx_up (M 10) (x3).toNat x2)) 10 (fx_up ((fx_set M 10 (fx_up (M 10) (x3).toNat x2)) 10) (x4).toNat x2)) 11 (x2).toNat) + 1)))) rfl ?_
  refine Ev.iald fd_e45 rfl rfl (by decide) g.2.2 ?_
  refine Ev.run 2 fd_e45 (i' := 35) (ls' := [fx_f 9, fx_f a, .inl (x2), .inl (x3), .inl (x4)]) (st' := [.inl (x3), .inl (1), .inl (((fx_set (fx_set (fx_set M 10 (fx_up (M 10) (x3).toNat x2)) 10 (fx_up ((fx_set M 10 (fx_up (M 10) (x3).toNat x2)) 10) (x4).toNat x2)) 11 (fx_up ((fx_set (fx_set M 10 (fx_up (M 10) (x3).toNat x2)) 10 (fx_up ((fx_set M 10 (fx_up (M 10) (x3).toNat x2)) 10) (x4).toNat x2)) 11) (x2).toNat (((fx_set (fx_set M 10 (fx_up (M 10) (x3).toNat x2)) 10 (fx_up ((fx_set M 10 (fx_up (M 10) (x3).toNat x2)) 10) (x4).toNat x2)) 11 (x2).toNat) + 1))) 12 (x2).toNat)), .inl (x2), fx_f 12]) (M1 := (fx_set (fx_set (fx_set M 10 (fx_up (M 10) (x3).toNat x2)) 10 (fx_up ((fx_set M 10 (fx_up (M 10) (x3).toNat x2)) 10) (x4).toNat x2)) 11 (fx_up ((fx_set (fx_set M 10 (fx_up (M 10) (x3).toNat x2)) 10 (fx_up ((fx_set M 10 (fx_up (M 10) (x3).toNat x2)) 10) (x4).toNat x2)) 11) (x2).toNat (((fx_set (fx_set M 10 (fx_up (M 10) (x3).toNat x2)) 10 (fx_up ((fx_set M 10 (fx_up (M 10) (x3).toNat x2)) 10) (x4).toNat x2)) 11 (x2).toNat) + 1)))) rfl ?_
  refine Ev.callS (vs := [.inl (x3)]) (rest := [.inl (1), .inl (((fx_set (fx_set (fx_set M 10 (fx_up (M 10) (x3).toNat x2)) 10 (fx_up ((fx_set M 10 (fx_up (M 10) (x3).toNat x2)) 10) (x4).toNat x2)) 11 (fx_up ((fx_set (fx_set M 10 (fx_up (M 10) (x3).toNat x2)) 10 (fx_up ((fx_set M 10 (fx_up (M 10) (x3).toNat x2)) 10) (x4).toNat x2)) 11) (x2).toNat (((fx_set (fx_set M 10 (fx_up (M 10) (x3).toNat x2)) 10 (fx_up ((fx_set M 10 (fx_up (M 10) (x3).toNat x2)) 10) (x4).toNat x2)) 11 (x2).toNat) + 1))) 12 (x2).toNat)), .inl (x2), fx_f 12]) (r1 := (some (.inl z))) fd_e45 rfl rfl rfl (Nat.le_of_ble_eq_true rfl) (Nat.le_of_ble_eq_true rfl) hc ?_
  exact k
theorem r45_36 {X : fx_Sc} {M M' : fx_M} {r : Option fx_V} {a : Nat} {x2 x3 x4 s1 s2 s3 s4 z : Int} {M1 : fx_M} (g : (0 ≤ s1 ∧ s1 < ((72 : Nat) : Int)) ∧ (0 ≤ x2 ∧ x2 < ((72 : Nat) : Int))) (hc : Ev X 18 0 [.inl (x3)] [] (fx_set M 12 (fx_up (M 12) (s1).toNat (fx_or s2 (fx_shl s3 s4)))) (some (.inl z)) M1) (k : Ev X 45 48 [fx_f 9, fx_f a, .inl (x2), .inl (x3), .inl (x4)] [.inl (z), fx_f a, .inl (1), .inl (((fx_set M 12 (fx_up (M 12) (s1).toNat (fx_or s2 (fx_shl s3 s4)))) 13 (x2).toNat)), .inl (x2), fx_f 13] M1 r M') : Ev X 45 36 [fx_f 9, fx_f a, .inl (x2), .inl (x3), .inl (x4)] [.inl (s4), .inl (s3), .inl (s2), .inl (s1), fx_f 12] M r M' := by
  refine Ev.run 2 fd_e45 (i' := 38) (ls' := [fx_f 9, fx_f a, .inl (x2), .inl (x3), .inl (x4)]) (st' := [.inl ((fx_or s2 (fx_shl s3 s4))), .inl (s1), fx_f 12]) (M1 := M) rfl ?_
  refine Ev.iast fd_e45 rfl rfl (by decide) g.1 ?_
  refine Ev.run 4 fd_e45 (i' := 43) (ls' := [fx_f 9, fx_f a, .inl (x2), .inl (x3), .inl (x4)]) (st' := [.inl (x2), fx_f 13, .inl (x2), fx_f 13]) (M1 := (fx_set M 12 (fx_up (M 12) (s1).toNat (fx_or s2 (fx_shl s3 s4))))) rfl ?_
  refine Ev.iald fd_e45 rfl rfl (by decide) g.2 ?_
  refine Ev.run 3 fd_e45 (i' := 47) (ls' := [fx_f 9, fx_f a, .inl (x2), .inl (x3), .inl (x4)]) (st' := [.inl (x3), fx_f a, .inl (1), .inl (((fx_set M 12 (fx_up (M 12) (s1).toNat (fx_or s2 (fx_shl s3 s4)))) 13 (x2).toNat)), .inl (x2), fx_f 13]) (M1 := (fx_set M 12 (fx_up (M 12) (s1).toNat (fx_or s2 (fx_shl s3 s4))))) rfl ?_
  refine Ev.callS (vs := [.inl (x3)]) (rest := [fx_f a, .inl (1), .inl (((fx_set M 12 (fx_up (M 12) (s1).toNat (fx_or s2 (fx_shl s3 s4)))) 13 (x2).toNat)), .inl (x2), fx_f 13]) (r1 := (some (.inl z))) fd_e45 rfl rfl rfl (Nat.le_of_ble_eq_true rfl) (Nat.le_of_ble_eq_true rfl) hc ?_
  exact k
theorem r45_48 {X : fx_Sc} {M M' : fx_M} {r : Option fx_V} {a : Nat} {x2 x3 x4 s1 s2 s3 s5 z : Int} {M1 : fx_M} (ha : fd_isS a) (hc : Ev X 99 0 [fx_f a, .inl (s5)] [] M (some (.inl z)) M1) (k : Ev X 45 49 [fx_f 9, fx_f a, .inl (x2), .inl (x3), .inl (x4)] [.inl (z), .inl (s3), .inl (s2), .inl (s1), fx_f 13] M1 r M') : Ev X 45 48 [fx_f 9, fx_f a, .inl (x2), .inl (x3), .inl (x4)] [.inl (s5), fx_f a, .inl (s3), .inl (s2), .inl (s1), fx_f 13] M r M' := by
  refine Ev.callV (vs := [fx_f a, .inl (s5)]) (rest := [.inl (s3), .inl (s2), .inl (s1), fx_f 13]) (r1 := (some (.inl z))) fd_e45 rfl rfl rfl (Nat.le_of_ble_eq_true rfl) (Nat.le_of_ble_eq_true rfl) (fd_rcvS ha) hc ?_
  exact k
theorem r45_49 {X : fx_Sc} {M : fx_M} {a : Nat} {x2 x3 x4 s1 s2 s3 s4 : Int} (g : (0 ≤ s1 ∧ s1 < ((72 : Nat) : Int))) : Ev X 45 49 [fx_f 9, fx_f a, .inl (x2), .inl (x3), .inl (x4)] [.inl (s4), .inl (s3), .inl (s2), .inl (s1), fx_f 13] M none (fx_set M 13 (fx_up (M 13) (s1).toNat (fx_or s2 (fx_shl s3 s4)))) := by
  refine Ev.run 2 fd_e45 (i' := 51) (ls' := [fx_f 9, fx_f a, .inl (x2), .inl (x3), .inl (x4)]) (st' := [.inl ((fx_or s2 (fx_shl s3 s4))), .inl (s1), fx_f 13]) (M1 := M) rfl ?_
  refine Ev.iast fd_e45 rfl rfl (by decide) g ?_
  exact Ev.retv fd_e45 rfl rfl
-- 46: FoldedStrips$Lines.lineAt(I)I
theorem fd_e46 : fd_C 46 = fd_c46 := rfl
theorem r46_0 {X : fx_Sc} {M M' : fx_M} {r : Option fx_V} {x1 z : Int} {M1 : fx_M} (hc : Ev X 6 0 [.inl (x1)] [] M (some (.inl z)) M1) (k : Ev X 46 2 [fx_f 9, .inl (x1)] [.inl (z)] M1 r M') : Ev X 46 0 [fx_f 9, .inl (x1)] [] M r M' := by
  refine Ev.run 1 fd_e46 (i' := 1) (ls' := [fx_f 9, .inl (x1)]) (st' := [.inl (x1)]) (M1 := M) rfl ?_
  refine Ev.callS (vs := [.inl (x1)]) (rest := []) (r1 := (some (.inl z))) fd_e46 rfl rfl rfl (Nat.le_of_ble_eq_true rfl) (Nat.le_of_ble_eq_true rfl) hc ?_
  exact k
theorem r46_2T {X : fx_Sc} {M M' : fx_M} {r : Option fx_V} {x1 s0 : Int} (g : (-2147483648 ≤ s0 ∧ s0 < 2147483648)) (h : s0 = 0) (k : Ev X 46 8 [fx_f 9, .inl (x1)] [] M r M') : Ev X 46 2 [fx_f 9, .inl (x1)] [.inl (s0)] M r M' := by
  refine Ev.ifT fd_e46 rfl g (decide_eq_true h) ?_
  exact k
theorem r46_2F {X : fx_Sc} {M M' : fx_M} {r : Option fx_V} {x1 s0 : Int} (g : (-2147483648 ≤ s0 ∧ s0 < 2147483648)) (h : s0 ≠ 0) (k : Ev X 46 3 [fx_f 9, .inl (x1)] [] M r M') : Ev X 46 2 [fx_f 9, .inl (x1)] [.inl (s0)] M r M' := by
  refine Ev.ifF fd_e46 rfl g (decide_eq_false h) ?_
  exact k
theorem r46_3 {X : fx_Sc} {M : fx_M} {x1 : Int} (g : (0 ≤ x1 ∧ x1 < ((144 : Nat) : Int))) : Ev X 46 3 [fx_f 9, .inl (x1)] [] M (some (.inl ((M 10 (x1).toNat)))) M := by
  refine Ev.run 3 fd_e46 (i' := 6) (ls' := [fx_f 9, .inl (x1)]) (st' := [.inl (x1), fx_f 10]) (M1 := M) rfl ?_
  refine Ev.iald fd_e46 rfl rfl (by decide) g ?_
  refine Ev.run 1 fd_e46 (i' := 9) (ls' := [fx_f 9, .inl (x1)]) (st' := [.inl ((M 10 (x1).toNat))]) (M1 := M) rfl ?_
  exact Ev.ret1 fd_e46 rfl rfl
theorem r46_8 {X : fx_Sc} {M : fx_M} {x1 : Int} : Ev X 46 8 [fx_f 9, .inl (x1)] [] M (some (.inl ((-1)))) M := by
  refine Ev.run 1 fd_e46 (i' := 9) (ls' := [fx_f 9, .inl (x1)]) (st' := [.inl ((-1))]) (M1 := M) rfl ?_
  exact Ev.ret1 fd_e46 rfl rfl
-- 47: FoldedStrips$Lines.linesIn(I)I
theorem fd_e47 : fd_C 47 = fd_c47 := rfl
theorem r47_0 {X : fx_Sc} {M M' : fx_M} {r : Option fx_V} {x1 : Int} (k : Ev X 47 4 [fx_f 9, .inl (x1), .inl (0), .inl (0)] [] M r M') : Ev X 47 0 [fx_f 9, .inl (x1), fx_u, fx_u] [] M r M' := by
  refine Ev.run 4 fd_e47 (i' := 4) (ls' := [fx_f 9, .inl (x1), .inl (0), .inl (0)]) (st' := []) (M1 := M) rfl ?_
  exact k
theorem r47_4T {X : fx_Sc} {M M' : fx_M} {r : Option fx_V} {x1 x2 x3 : Int} (g : (-2147483648 ≤ x3 ∧ x3 < 2147483648) ∧ (-2147483648 ≤ (M 9 0) ∧ (M 9 0) < 2147483648)) (h : (M 9 0) ≤ x3) (k : Ev X 47 19 [fx_f 9, .inl (x1), .inl (x2), .inl (x3)] [] M r M') : Ev X 47 4 [fx_f 9, .inl (x1), .inl (x2), .inl (x3)] [] M r M' := by
  refine Ev.run 3 fd_e47 (i' := 7) (ls' := [fx_f 9, .inl (x1), .inl (x2), .inl (x3)]) (st' := [.inl ((M 9 0)), .inl (x3)]) (M1 := M) rfl ?_
  refine Ev.icT fd_e47 rfl g.1 g.2 (decide_eq_true h) ?_
  exact k
theorem r47_4F {X : fx_Sc} {M M' : fx_M} {r : Option fx_V} {x1 x2 x3 : Int} (g : (-2147483648 ≤ x3 ∧ x3 < 2147483648) ∧ (-2147483648 ≤ (M 9 0) ∧ (M 9 0) < 2147483648)) (h : x3 < (M 9 0)) (k : Ev X 47 8 [fx_f 9, .inl (x1), .inl (x2), .inl (x3)] [] M r M') : Ev X 47 4 [fx_f 9, .inl (x1), .inl (x2), .inl (x3)] [] M r M' := by
  refine Ev.run 3 fd_e47 (i' := 7) (ls' := [fx_f 9, .inl (x1), .inl (x2), .inl (x3)]) (st' := [.inl ((M 9 0)), .inl (x3)]) (M1 := M) rfl ?_
  refine Ev.icF fd_e47 rfl g.1 g.2 (decide_eq_false (Int.not_le.mpr h)) ?_
  exact k
theorem r47_8 {X : fx_Sc} {M M' : fx_M} {r : Option fx_V} {x1 x2 x3 z : Int} {M1 : fx_M} (hc : Ev X 48 0 [fx_f 9, .inl (x3)] [] M (some (.inl z)) M1) (k : Ev X 47 11 [fx_f 9, .inl (x1), .inl (x2), .inl (x3)] [.inl (z)] M1 r M') : Ev X 47 8 [fx_f 9, .inl (x1), .inl (x2), .inl (x3)] [] M r M' := by
  refine Ev.run 2 fd_e47 (i' := 10) (ls' := [fx_f 9, .inl (x1), .inl (x2), .inl (x3)]) (st' := [.inl (x3), fx_f 9]) (M1 := M) rfl ?_
  refine Ev.callV (vs := [fx_f 9, .inl (x3)]) (rest := []) (r1 := (some (.inl z))) fd_e47 rfl rfl rfl (Nat.le_of_ble_eq_true rfl) (Nat.le_of_ble_eq_true rfl) rfl hc ?_
  exact k
theorem r47_11T {X : fx_Sc} {M M' : fx_M} {r : Option fx_V} {x1 x2 x3 s0 : Int} (g : (-2147483648 ≤ (fx_and s0 (fx_shl 1 x1)) ∧ (fx_and s0 (fx_shl 1 x1)) < 2147483648)) (h : (fx_and s0 (fx_shl 1 x1)) = 0) (k : Ev X 47 17 [fx_f 9, .inl (x1), .inl (x2), .inl (x3)] [] M r M') : Ev X 47 11 [fx_f 9, .inl (x1), .inl (x2), .inl (x3)] [.inl (s0)] M r M' := by
  refine Ev.run 4 fd_e47 (i' := 15) (ls' := [fx_f 9, .inl (x1), .inl (x2), .inl (x3)]) (st' := [.inl ((fx_and s0 (fx_shl 1 x1)))]) (M1 := M) rfl ?_
  refine Ev.ifT fd_e47 rfl g (decide_eq_true h) ?_
  exact k
theorem r47_11F {X : fx_Sc} {M M' : fx_M} {r : Option fx_V} {x1 x2 x3 s0 : Int} (g : (-2147483648 ≤ (fx_and s0 (fx_shl 1 x1)) ∧ (fx_and s0 (fx_shl 1 x1)) < 2147483648)) (h : (fx_and s0 (fx_shl 1 x1)) ≠ 0) (k : Ev X 47 16 [fx_f 9, .inl (x1), .inl (x2), .inl (x3)] [] M r M') : Ev X 47 11 [fx_f 9, .inl (x1), .inl (x2), .inl (x3)] [.inl (s0)] M r M' := by
  refine Ev.run 4 fd_e47 (i' := 15) (ls' := [fx_f 9, .inl (x1), .inl (x2), .inl (x3)]) (st' := [.inl ((fx_and s0 (fx_shl 1 x1)))]) (M1 := M) rfl ?_
  refine Ev.ifF fd_e47 rfl g (decide_eq_false h) ?_
  exact k
theorem r47_16 {X : fx_Sc} {M M' : fx_M} {r : Option fx_V} {x1 x2 x3 : Int} (k : Ev X 47 4 [fx_f 9, .inl (x1), .inl ((x2 + 1)), .inl ((x3 + 1))] [] M r M') : Ev X 47 16 [fx_f 9, .inl (x1), .inl (x2), .inl (x3)] [] M r M' := by
  refine Ev.run 3 fd_e47 (i' := 4) (ls' := [fx_f 9, .inl (x1), .inl ((x2 + 1)), .inl ((x3 + 1))]) (st' := []) (M1 := M) rfl ?_
  exact k
theorem r47_17 {X : fx_Sc} {M M' : fx_M} {r : Option fx_V} {x1 x2 x3 : Int} (k : Ev X 47 4 [fx_f 9, .inl (x1), .inl (x2), .inl ((x3 + 1))] [] M r M') : Ev X 47 17 [fx_f 9, .inl (x1), .inl (x2), .inl (x3)] [] M r M' := by
  refine Ev.run 2 fd_e47 (i' := 4) (ls' := [fx_f 9, .inl (x1), .inl (x2), .inl ((x3 + 1))]) (st' := []) (M1 := M) rfl ?_
  exact k
theorem r47_19 {X : fx_Sc} {M : fx_M} {x1 x2 x3 : Int} : Ev X 47 19 [fx_f 9, .inl (x1), .inl (x2), .inl (x3)] [] M (some (.inl (x2))) M := by
  refine Ev.run 1 fd_e47 (i' := 20) (ls' := [fx_f 9, .inl (x1), .inl (x2), .inl (x3)]) (st' := [.inl (x2)]) (M1 := M) rfl ?_
  exact Ev.ret1 fd_e47 rfl rfl
-- 48: FoldedStrips$Lines.panelSetOf(I)I
theorem fd_e48 : fd_C 48 = fd_c48 := rfl
theorem r48_0 {X : fx_Sc} {M M' : fx_M} {r : Option fx_V} {x1 z : Int} {M1 : fx_M} (hc : Ev X 43 0 [.inl (x1)] [] M (some (.inl z)) M1) (k : Ev X 48 2 [fx_f 9, .inl (x1)] [.inl (z)] M1 r M') : Ev X 48 0 [fx_f 9, .inl (x1)] [] M r M' := by
  refine Ev.run 1 fd_e48 (i' := 1) (ls' := [fx_f 9, .inl (x1)]) (st' := [.inl (x1)]) (M1 := M) rfl ?_
  refine Ev.callS (vs := [.inl (x1)]) (rest := []) (r1 := (some (.inl z))) fd_e48 rfl rfl rfl (Nat.le_of_ble_eq_true rfl) (Nat.le_of_ble_eq_true rfl) hc ?_
  exact k
theorem r48_2T {X : fx_Sc} {M M' : fx_M} {r : Option fx_V} {x1 s0 : Int} (g : (-2147483648 ≤ s0 ∧ s0 < 2147483648)) (h : s0 = 0) (k : Ev X 48 8 [fx_f 9, .inl (x1)] [] M r M') : Ev X 48 2 [fx_f 9, .inl (x1)] [.inl (s0)] M r M' := by
  refine Ev.ifT fd_e48 rfl g (decide_eq_true h) ?_
  exact k
theorem r48_2F {X : fx_Sc} {M M' : fx_M} {r : Option fx_V} {x1 s0 : Int} (g : (-2147483648 ≤ s0 ∧ s0 < 2147483648)) (h : s0 ≠ 0) (k : Ev X 48 3 [fx_f 9, .inl (x1)] [] M r M') : Ev X 48 2 [fx_f 9, .inl (x1)] [.inl (s0)] M r M' := by
  refine Ev.ifF fd_e48 rfl g (decide_eq_false h) ?_
  exact k
theorem r48_3 {X : fx_Sc} {M : fx_M} {x1 : Int} (g : (0 ≤ x1 ∧ x1 < ((72 : Nat) : Int))) : Ev X 48 3 [fx_f 9, .inl (x1)] [] M (some (.inl ((M 12 (x1).toNat)))) M := by
  refine Ev.run 3 fd_e48 (i' := 6) (ls' := [fx_f 9, .inl (x1)]) (st' := [.inl (x1), fx_f 12]) (M1 := M) rfl ?_
  refine Ev.iald fd_e48 rfl rfl (by decide) g ?_
  refine Ev.run 1 fd_e48 (i' := 9) (ls' := [fx_f 9, .inl (x1)]) (st' := [.inl ((M 12 (x1).toNat))]) (M1 := M) rfl ?_
  exact Ev.ret1 fd_e48 rfl rfl
theorem r48_8 {X : fx_Sc} {M : fx_M} {x1 : Int} : Ev X 48 8 [fx_f 9, .inl (x1)] [] M (some (.inl (0))) M := by
  refine Ev.run 1 fd_e48 (i' := 9) (ls' := [fx_f 9, .inl (x1)]) (st' := [.inl (0)]) (M1 := M) rfl ?_
  exact Ev.ret1 fd_e48 rfl rfl
-- 49: FoldedStrips$Lines.size()I
theorem fd_e49 : fd_C 49 = fd_c49 := rfl
theorem r49_0 {X : fx_Sc} {M : fx_M} : Ev X 49 0 [fx_f 9] [] M (some (.inl ((M 9 0)))) M := by
  refine Ev.run 2 fd_e49 (i' := 2) (ls' := [fx_f 9]) (st' := [.inl ((M 9 0))]) (M1 := M) rfl ?_
  exact Ev.ret1 fd_e49 rfl rfl
-- 50: FoldedStrips$Lines.strokesOf(I)I
theorem fd_e50 : fd_C 50 = fd_c50 := rfl
theorem r50_0 {X : fx_Sc} {M M' : fx_M} {r : Option fx_V} {x1 z : Int} {M1 : fx_M} (hc : Ev X 43 0 [.inl (x1)] [] M (some (.inl z)) M1) (k : Ev X 50 2 [fx_f 9, .inl (x1)] [.inl (z)] M1 r M') : Ev X 50 0 [fx_f 9, .inl (x1)] [] M r M' := by
  refine Ev.run 1 fd_e50 (i' := 1) (ls' := [fx_f 9, .inl (x1)]) (st' := [.inl (x1)]) (M1 := M) rfl ?_
  refine Ev.callS (vs := [.inl (x1)]) (rest := []) (r1 := (some (.inl z))) fd_e50 rfl rfl rfl (Nat.le_of_ble_eq_true rfl) (Nat.le_of_ble_eq_true rfl) hc ?_
  exact k
theorem r50_2T {X : fx_Sc} {M M' : fx_M} {r : Option fx_V} {x1 s0 : Int} (g : (-2147483648 ≤ s0 ∧ s0 < 2147483648)) (h : s0 = 0) (k : Ev X 50 8 [fx_f 9, .inl (x1)] [] M r M') : Ev X 50 2 [fx_f 9, .inl (x1)] [.inl (s0)] M r M' := by
  refine Ev.ifT fd_e50 rfl g (decide_eq_true h) ?_
  exact k
theorem r50_2F {X : fx_Sc} {M M' : fx_M} {r : Option fx_V} {x1 s0 : Int} (g : (-2147483648 ≤ s0 ∧ s0 < 2147483648)) (h : s0 ≠ 0) (k : Ev X 50 3 [fx_f 9, .inl (x1)] [] M r M') : Ev X 50 2 [fx_f 9, .inl (x1)] [.inl (s0)] M r M' := by
  refine Ev.ifF fd_e50 rfl g (decide_eq_false h) ?_
  exact k
theorem r50_3 {X : fx_Sc} {M : fx_M} {x1 : Int} (g : (0 ≤ x1 ∧ x1 < ((72 : Nat) : Int))) : Ev X 50 3 [fx_f 9, .inl (x1)] [] M (some (.inl ((M 11 (x1).toNat)))) M := by
  refine Ev.run 3 fd_e50 (i' := 6) (ls' := [fx_f 9, .inl (x1)]) (st' := [.inl (x1), fx_f 11]) (M1 := M) rfl ?_
  refine Ev.iald fd_e50 rfl rfl (by decide) g ?_
  refine Ev.run 1 fd_e50 (i' := 9) (ls' := [fx_f 9, .inl (x1)]) (st' := [.inl ((M 11 (x1).toNat))]) (M1 := M) rfl ?_
  exact Ev.ret1 fd_e50 rfl rfl
theorem r50_8 {X : fx_Sc} {M : fx_M} {x1 : Int} : Ev X 50 8 [fx_f 9, .inl (x1)] [] M (some (.inl (0))) M := by
  refine Ev.run 1 fd_e50 (i' := 9) (ls' := [fx_f 9, .inl (x1)]) (st' := [.inl (0)]) (M1 := M) rfl ?_
  exact Ev.ret1 fd_e50 rfl rfl
-- 51: FoldedStrips$Lines.isLoop(I)Z
theorem fd_e51 : fd_C 51 = fd_c51 := rfl
theorem r51_0 {X : fx_Sc} {M M' : fx_M} {r : Option fx_V} {x1 z : Int} {M1 : fx_M} (hc : Ev X 43 0 [.inl (x1)] [] M (some (.inl z)) M1) (k : Ev X 51 2 [fx_f 9, .inl (x1)] [.inl (z)] M1 r M') : Ev X 51 0 [fx_f 9, .inl (x1)] [] M r M' := by
  refine Ev.run 1 fd_e51 (i' := 1) (ls' := [fx_f 9, .inl (x1)]) (st' := [.inl (x1)]) (M1 := M) rfl ?_
  refine Ev.callS (vs := [.inl (x1)]) (rest := []) (r1 := (some (.inl z))) fd_e51 rfl rfl rfl (Nat.le_of_ble_eq_true rfl) (Nat.le_of_ble_eq_true rfl) hc ?_
  exact k
theorem r51_2T {X : fx_Sc} {M M' : fx_M} {r : Option fx_V} {x1 s0 : Int} (g : (-2147483648 ≤ s0 ∧ s0 < 2147483648)) (h : s0 = 0) (k : Ev X 51 10 [fx_f 9, .inl (x1)] [] M r M') : Ev X 51 2 [fx_f 9, .inl (x1)] [.inl (s0)] M r M' := by
  refine Ev.ifT fd_e51 rfl g (decide_eq_true h) ?_
  exact k
theorem r51_2F {X : fx_Sc} {M M' : fx_M} {r : Option fx_V} {x1 s0 : Int} (g : (-2147483648 ≤ s0 ∧ s0 < 2147483648)) (h : s0 ≠ 0) (k : Ev X 51 3 [fx_f 9, .inl (x1)] [] M r M') : Ev X 51 2 [fx_f 9, .inl (x1)] [.inl (s0)] M r M' := by
  refine Ev.ifF fd_e51 rfl g (decide_eq_false h) ?_
  exact k
theorem r51_3T {X : fx_Sc} {M M' : fx_M} {r : Option fx_V} {x1 : Int} (g : (0 ≤ x1 ∧ x1 < ((72 : Nat) : Int)) ∧ (-2147483648 ≤ (M 16 (x1).toNat) ∧ (M 16 (x1).toNat) < 2147483648)) (h : (M 16 (x1).toNat) = 0) (k : Ev X 51 10 [fx_f 9, .inl (x1)] [] M r M') : Ev X 51 3 [fx_f 9, .inl (x1)] [] M r M' := by
  refine Ev.run 3 fd_e51 (i' := 6) (ls' := [fx_f 9, .inl (x1)]) (st' := [.inl (x1), fx_f 16]) (M1 := M) rfl ?_
  refine Ev.bald fd_e51 rfl rfl (by decide) g.1 ?_
  refine Ev.ifT fd_e51 rfl g.2 (decide_eq_true h) ?_
  exact k
theorem r51_3F {X : fx_Sc} {M M' : fx_M} {r : Option fx_V} {x1 : Int} (g : (0 ≤ x1 ∧ x1 < ((72 : Nat) : Int)) ∧ (-2147483648 ≤ (M 16 (x1).toNat) ∧ (M 16 (x1).toNat) < 2147483648)) (h : (M 16 (x1).toNat) ≠ 0) (k : Ev X 51 8 [fx_f 9, .inl (x1)] [] M r M') : Ev X 51 3 [fx_f 9, .inl (x1)] [] M r M' := by
  refine Ev.run 3 fd_e51 (i' := 6) (ls' := [fx_f 9, .inl (x1)]) (st' := [.inl (x1), fx_f 16]) (M1 := M) rfl ?_
  refine Ev.bald fd_e51 rfl rfl (by decide) g.1 ?_
  refine Ev.ifF fd_e51 rfl g.2 (decide_eq_false h) ?_
  exact k
theorem r51_8 {X : fx_Sc} {M : fx_M} {x1 : Int} : Ev X 51 8 [fx_f 9, .inl (x1)] [] M (some (.inl (1))) M := by
  refine Ev.run 2 fd_e51 (i' := 11) (ls' := [fx_f 9, .inl (x1)]) (st' := [.inl (1)]) (M1 := M) rfl ?_
  exact Ev.ret2 fd_e51 rfl rfl (by decide)
theorem r51_10 {X : fx_Sc} {M : fx_M} {x1 : Int} : Ev X 51 10 [fx_f 9, .inl (x1)] [] M (some (.inl (0))) M := by
  refine Ev.run 1 fd_e51 (i' := 11) (ls' := [fx_f 9, .inl (x1)]) (st' := [.inl (0)]) (M1 := M) rfl ?_
  exact Ev.ret2 fd_e51 rfl rfl (by decide)
-- 52: FoldedStrips$Lines.handSetOf(I)I
theorem fd_e52 : fd_C 52 = fd_c52 := rfl
theorem r52_0 {X : fx_Sc} {M M' : fx_M} {r : Option fx_V} {x1 z : Int} {M1 : fx_M} (hc : Ev X 43 0 [.inl (x1)] [] M (some (.inl z)) M1) (k : Ev X 52 2 [fx_f 9, .inl (x1)] [.inl (z)] M1 r M') : Ev X 52 0 [fx_f 9, .inl (x1)] [] M r M' := by
  refine Ev.run 1 fd_e52 (i' := 1) (ls' := [fx_f 9, .inl (x1)]) (st' := [.inl (x1)]) (M1 := M) rfl ?_
  refine Ev.callS (vs := [.inl (x1)]) (rest := []) (r1 := (some (.inl z))) fd_e52 rfl rfl rfl (Nat.le_of_ble_eq_true rfl) (Nat.le_of_ble_eq_true rfl) hc ?_
  exact k
theorem r52_2T {X : fx_Sc} {M M' : fx_M} {r : Option fx_V} {x1 s0 : Int} (g : (-2147483648 ≤ s0 ∧ s0 < 2147483648)) (h : s0 = 0) (k : Ev X 52 8 [fx_f 9, .inl (x1)] [] M r M') : Ev X 52 2 [fx_f 9, .inl (x1)] [.inl (s0)] M r M' := by
  refine Ev.ifT fd_e52 rfl g (decide_eq_true h) ?_
  exact k
theorem r52_2F {X : fx_Sc} {M M' : fx_M} {r : Option fx_V} {x1 s0 : Int} (g : (-2147483648 ≤ s0 ∧ s0 < 2147483648)) (h : s0 ≠ 0) (k : Ev X 52 3 [fx_f 9, .inl (x1)] [] M r M') : Ev X 52 2 [fx_f 9, .inl (x1)] [.inl (s0)] M r M' := by
  refine Ev.ifF fd_e52 rfl g (decide_eq_false h) ?_
  exact k
theorem r52_3 {X : fx_Sc} {M : fx_M} {x1 : Int} (g : (0 ≤ x1 ∧ x1 < ((72 : Nat) : Int))) : Ev X 52 3 [fx_f 9, .inl (x1)] [] M (some (.inl ((M 13 (x1).toNat)))) M := by
  refine Ev.run 3 fd_e52 (i' := 6) (ls' := [fx_f 9, .inl (x1)]) (st' := [.inl (x1), fx_f 13]) (M1 := M) rfl ?_
  refine Ev.iald fd_e52 rfl rfl (by decide) g ?_
  refine Ev.run 1 fd_e52 (i' := 9) (ls' := [fx_f 9, .inl (x1)]) (st' := [.inl ((M 13 (x1).toNat))]) (M1 := M) rfl ?_
  exact Ev.ret1 fd_e52 rfl rfl
theorem r52_8 {X : fx_Sc} {M : fx_M} {x1 : Int} : Ev X 52 8 [fx_f 9, .inl (x1)] [] M (some (.inl (0))) M := by
  refine Ev.run 1 fd_e52 (i' := 9) (ls' := [fx_f 9, .inl (x1)]) (st' := [.inl (0)]) (M1 := M) rfl ?_
  exact Ev.ret1 fd_e52 rfl rfl
-- 53: FoldedStrips$Lines.lesserEndOf(I)I
theorem fd_e53 : fd_C 53 = fd_c53 := rfl
theorem r53_0 {X : fx_Sc} {M M' : fx_M} {r : Option fx_V} {x1 z : Int} {M1 : fx_M} (hc : Ev X 43 0 [.inl (x1)] [] M (some (.inl z)) M1) (k : Ev X 53 2 [fx_f 9, .inl (x1)] [.inl (z)] M1 r M') : Ev X 53 0 [fx_f 9, .inl (x1)] [] M r M' := by
  refine Ev.run 1 fd_e53 (i' := 1) (ls' := [fx_f 9, .inl (x1)]) (st' := [.inl (x1)]) (M1 := M) rfl ?_
  refine Ev.callS (vs := [.inl (x1)]) (rest := []) (r1 := (some (.inl z))) fd_e53 rfl rfl rfl (Nat.le_of_ble_eq_true rfl) (Nat.le_of_ble_eq_true rfl) hc ?_
  exact k
theorem r53_2T {X : fx_Sc} {M M' : fx_M} {r : Option fx_V} {x1 s0 : Int} (g : (-2147483648 ≤ s0 ∧ s0 < 2147483648)) (h : s0 = 0) (k : Ev X 53 8 [fx_f 9, .inl (x1)] [] M r M') : Ev X 53 2 [fx_f 9, .inl (x1)] [.inl (s0)] M r M' := by
  refine Ev.ifT fd_e53 rfl g (decide_eq_true h) ?_
  exact k
theorem r53_2F {X : fx_Sc} {M M' : fx_M} {r : Option fx_V} {x1 s0 : Int} (g : (-2147483648 ≤ s0 ∧ s0 < 2147483648)) (h : s0 ≠ 0) (k : Ev X 53 3 [fx_f 9, .inl (x1)] [] M r M') : Ev X 53 2 [fx_f 9, .inl (x1)] [.inl (s0)] M r M' := by
  refine Ev.ifF fd_e53 rfl g (decide_eq_false h) ?_
  exact k
theorem r53_3 {X : fx_Sc} {M : fx_M} {x1 : Int} (g : (0 ≤ x1 ∧ x1 < ((72 : Nat) : Int))) : Ev X 53 3 [fx_f 9, .inl (x1)] [] M (some (.inl ((M 14 (x1).toNat)))) M := by
  refine Ev.run 3 fd_e53 (i' := 6) (ls' := [fx_f 9, .inl (x1)]) (st' := [.inl (x1), fx_f 14]) (M1 := M) rfl ?_
  refine Ev.iald fd_e53 rfl rfl (by decide) g ?_
  refine Ev.run 1 fd_e53 (i' := 9) (ls' := [fx_f 9, .inl (x1)]) (st' := [.inl ((M 14 (x1).toNat))]) (M1 := M) rfl ?_
  exact Ev.ret1 fd_e53 rfl rfl
theorem r53_8 {X : fx_Sc} {M : fx_M} {x1 : Int} : Ev X 53 8 [fx_f 9, .inl (x1)] [] M (some (.inl ((-6)))) M := by
  refine Ev.run 1 fd_e53 (i' := 9) (ls' := [fx_f 9, .inl (x1)]) (st' := [.inl ((-6))]) (M1 := M) rfl ?_
  exact Ev.ret1 fd_e53 rfl rfl
-- 54: FoldedStrips$Lines.greaterEndOf(I)I
theorem fd_e54 : fd_C 54 = fd_c54 := rfl
theorem r54_0 {X : fx_Sc} {M M' : fx_M} {r : Option fx_V} {x1 z : Int} {M1 : fx_M} (hc : Ev X 43 0 [.inl (x1)] [] M (some (.inl z)) M1) (k : Ev X 54 2 [fx_f 9, .inl (x1)] [.inl (z)] M1 r M') : Ev X 54 0 [fx_f 9, .inl (x1)] [] M r M' := by
  refine Ev.run 1 fd_e54 (i' := 1) (ls' := [fx_f 9, .inl (x1)]) (st' := [.inl (x1)]) (M1 := M) rfl ?_
  refine Ev.callS (vs := [.inl (x1)]) (rest := []) (r1 := (some (.inl z))) fd_e54 rfl rfl rfl (Nat.le_of_ble_eq_true rfl) (Nat.le_of_ble_eq_true rfl) hc ?_
  exact k
theorem r54_2T {X : fx_Sc} {M M' : fx_M} {r : Option fx_V} {x1 s0 : Int} (g : (-2147483648 ≤ s0 ∧ s0 < 2147483648)) (h : s0 = 0) (k : Ev X 54 8 [fx_f 9, .inl (x1)] [] M r M') : Ev X 54 2 [fx_f 9, .inl (x1)] [.inl (s0)] M r M' := by
  refine Ev.ifT fd_e54 rfl g (decide_eq_true h) ?_
  exact k
theorem r54_2F {X : fx_Sc} {M M' : fx_M} {r : Option fx_V} {x1 s0 : Int} (g : (-2147483648 ≤ s0 ∧ s0 < 2147483648)) (h : s0 ≠ 0) (k : Ev X 54 3 [fx_f 9, .inl (x1)] [] M r M') : Ev X 54 2 [fx_f 9, .inl (x1)] [.inl (s0)] M r M' := by
  refine Ev.ifF fd_e54 rfl g (decide_eq_false h) ?_
  exact k
theorem r54_3 {X : fx_Sc} {M : fx_M} {x1 : Int} (g : (0 ≤ x1 ∧ x1 < ((72 : Nat) : Int))) : Ev X 54 3 [fx_f 9, .inl (x1)] [] M (some (.inl ((M 15 (x1).toNat)))) M := by
  refine Ev.run 3 fd_e54 (i' := 6) (ls' := [fx_f 9, .inl (x1)]) (st' := [.inl (x1), fx_f 15]) (M1 := M) rfl ?_
  refine Ev.iald fd_e54 rfl rfl (by decide) g ?_
  refine Ev.run 1 fd_e54 (i' := 9) (ls' := [fx_f 9, .inl (x1)]) (st' := [.inl ((M 15 (x1).toNat))]) (M1 := M) rfl ?_
  exact Ev.ret1 fd_e54 rfl rfl
theorem r54_8 {X : fx_Sc} {M : fx_M} {x1 : Int} : Ev X 54 8 [fx_f 9, .inl (x1)] [] M (some (.inl ((-6)))) M := by
  refine Ev.run 1 fd_e54 (i' := 9) (ls' := [fx_f 9, .inl (x1)]) (st' := [.inl ((-6))]) (M1 := M) rfl ?_
  exact Ev.ret1 fd_e54 rfl rfl
-- 55: FoldedStrips$Lines.loops()I
theorem fd_e55 : fd_C 55 = fd_c55 := rfl
theorem r55_0 {X : fx_Sc} {M M' : fx_M} {r : Option fx_V} (k : Ev X 55 4 [fx_f 9, .inl (0), .inl (0)] [] M r M') : Ev X 55 0 [fx_f 9, fx_u, fx_u] [] M r M' := by
  refine Ev.run 4 fd_e55 (i' := 4) (ls' := [fx_f 9, .inl (0), .inl (0)]) (st' := []) (M1 := M) rfl ?_
  exact k
theorem r55_4T {X : fx_Sc} {M M' : fx_M} {r : Option fx_V} {x1 x2 : Int} (g : (-2147483648 ≤ x2 ∧ x2 < 2147483648) ∧ (-2147483648 ≤ (M 9 0) ∧ (M 9 0) < 2147483648)) (h : (M 9 0) ≤ x2) (k : Ev X 55 15 [fx_f 9, .inl (x1), .inl (x2)] [] M r M') : Ev X 55 4 [fx_f 9, .inl (x1), .inl (x2)] [] M r M' := by
  refine Ev.run 3 fd_e55 (i' := 7) (ls' := [fx_f 9, .inl (x1), .inl (x2)]) (st' := [.inl ((M 9 0)), .inl (x2)]) (M1 := M) rfl ?_
  refine Ev.icT fd_e55 rfl g.1 g.2 (decide_eq_true h) ?_
  exact k
theorem r55_4F {X : fx_Sc} {M M' : fx_M} {r : Option fx_V} {x1 x2 : Int} (g : (-2147483648 ≤ x2 ∧ x2 < 2147483648) ∧ (-2147483648 ≤ (M 9 0) ∧ (M 9 0) < 2147483648)) (h : x2 < (M 9 0)) (k : Ev X 55 8 [fx_f 9, .inl (x1), .inl (x2)] [] M r M') : Ev X 55 4 [fx_f 9, .inl (x1), .inl (x2)] [] M r M' := by
  refine Ev.run 3 fd_e55 (i' := 7) (ls' := [fx_f 9, .inl (x1), .inl (x2)]) (st' := [.inl ((M 9 0)), .inl (x2)]) (M1 := M) rfl ?_
  refine Ev.icF fd_e55 rfl g.1 g.2 (decide_eq_false (Int.not_le.mpr h)) ?_
  exact k
theorem r55_8 {X : fx_Sc} {M M' : fx_M} {r : Option fx_V} {x1 x2 z : Int} {M1 : fx_M} (hc : Ev X 51 0 [fx_f 9, .inl (x2)] [] M (some (.inl z)) M1) (k : Ev X 55 11 [fx_f 9, .inl (x1), .inl (x2)] [.inl (z)] M1 r M') : Ev X 55 8 [fx_f 9, .inl (x1), .inl (x2)] [] M r M' := by
  refine Ev.run 2 fd_e55 (i' := 10) (ls' := [fx_f 9, .inl (x1), .inl (x2)]) (st' := [.inl (x2), fx_f 9]) (M1 := M) rfl ?_
  refine Ev.callV (vs := [fx_f 9, .inl (x2)]) (rest := []) (r1 := (some (.inl z))) fd_e55 rfl rfl rfl (Nat.le_of_ble_eq_true rfl) (Nat.le_of_ble_eq_true rfl) rfl hc ?_
  exact k
theorem r55_11T {X : fx_Sc} {M M' : fx_M} {r : Option fx_V} {x1 x2 s0 : Int} (g : (-2147483648 ≤ s0 ∧ s0 < 2147483648)) (h : s0 = 0) (k : Ev X 55 13 [fx_f 9, .inl (x1), .inl (x2)] [] M r M') : Ev X 55 11 [fx_f 9, .inl (x1), .inl (x2)] [.inl (s0)] M r M' := by
  refine Ev.ifT fd_e55 rfl g (decide_eq_true h) ?_
  exact k
theorem r55_11F {X : fx_Sc} {M M' : fx_M} {r : Option fx_V} {x1 x2 s0 : Int} (g : (-2147483648 ≤ s0 ∧ s0 < 2147483648)) (h : s0 ≠ 0) (k : Ev X 55 12 [fx_f 9, .inl (x1), .inl (x2)] [] M r M') : Ev X 55 11 [fx_f 9, .inl (x1), .inl (x2)] [.inl (s0)] M r M' := by
  refine Ev.ifF fd_e55 rfl g (decide_eq_false h) ?_
  exact k
theorem r55_12 {X : fx_Sc} {M M' : fx_M} {r : Option fx_V} {x1 x2 : Int} (k : Ev X 55 4 [fx_f 9, .inl ((x1 + 1)), .inl ((x2 + 1))] [] M r M') : Ev X 55 12 [fx_f 9, .inl (x1), .inl (x2)] [] M r M' := by
  refine Ev.run 3 fd_e55 (i' := 4) (ls' := [fx_f 9, .inl ((x1 + 1)), .inl ((x2 + 1))]) (st' := []) (M1 := M) rfl ?_
  exact k
theorem r55_13 {X : fx_Sc} {M M' : fx_M} {r : Option fx_V} {x1 x2 : Int} (k : Ev X 55 4 [fx_f 9, .inl (x1), .inl ((x2 + 1))] [] M r M') : Ev X 55 13 [fx_f 9, .inl (x1), .inl (x2)] [] M r M' := by
  refine Ev.run 2 fd_e55 (i' := 4) (ls' := [fx_f 9, .inl (x1), .inl ((x2 + 1))]) (st' := []) (M1 := M) rfl ?_
  exact k
theorem r55_15 {X : fx_Sc} {M : fx_M} {x1 x2 : Int} : Ev X 55 15 [fx_f 9, .inl (x1), .inl (x2)] [] M (some (.inl (x1))) M := by
  refine Ev.run 1 fd_e55 (i' := 16) (ls' := [fx_f 9, .inl (x1), .inl (x2)]) (st' := [.inl (x1)]) (M1 := M) rfl ?_
  exact Ev.ret1 fd_e55 rfl rfl
-- 56: FoldedStrips$Lines.longest()I
theorem fd_e56 : fd_C 56 = fd_c56 := rfl
theorem r56_0 {X : fx_Sc} {M M' : fx_M} {r : Option fx_V} (k : Ev X 56 4 [fx_f 9, .inl (0), .inl (0)] [] M r M') : Ev X 56 0 [fx_f 9, fx_u, fx_u] [] M r M' := by
  refine Ev.run 4 fd_e56 (i' := 4) (ls' := [fx_f 9, .inl (0), .inl (0)]) (st' := []) (M1 := M) rfl ?_
  exact k
theorem r56_4T {X : fx_Sc} {M M' : fx_M} {r : Option fx_V} {x1 x2 : Int} (g : (-2147483648 ≤ x2 ∧ x2 < 2147483648) ∧ (-2147483648 ≤ (M 9 0) ∧ (M 9 0) < 2147483648)) (h : (M 9 0) ≤ x2) (k : Ev X 56 16 [fx_f 9, .inl (x1), .inl (x2)] [] M r M') : Ev X 56 4 [fx_f 9, .inl (x1), .inl (x2)] [] M r M' := by
  refine Ev.run 3 fd_e56 (i' := 7) (ls' := [fx_f 9, .inl (x1), .inl (x2)]) (st' := [.inl ((M 9 0)), .inl (x2)]) (M1 := M) rfl ?_
  refine Ev.icT fd_e56 rfl g.1 g.2 (decide_eq_true h) ?_
  exact k
theorem r56_4F {X : fx_Sc} {M M' : fx_M} {r : Option fx_V} {x1 x2 : Int} (g : (-2147483648 ≤ x2 ∧ x2 < 2147483648) ∧ (-2147483648 ≤ (M 9 0) ∧ (M 9 0) < 2147483648)) (h : x2 < (M 9 0)) (k : Ev X 56 8 [fx_f 9, .inl (x1), .inl (x2)] [] M r M') : Ev X 56 4 [fx_f 9, .inl (x1), .inl (x2)] [] M r M' := by
  refine Ev.run 3 fd_e56 (i' := 7) (ls' := [fx_f 9, .inl (x1), .inl (x2)]) (st' := [.inl ((M 9 0)), .inl (x2)]) (M1 := M) rfl ?_
  refine Ev.icF fd_e56 rfl g.1 g.2 (decide_eq_false (Int.not_le.mpr h)) ?_
  exact k
theorem r56_8 {X : fx_Sc} {M M' : fx_M} {r : Option fx_V} {x1 x2 z : Int} {M1 : fx_M} (hc : Ev X 50 0 [fx_f 9, .inl (x2)] [] M (some (.inl z)) M1) (k : Ev X 56 12 [fx_f 9, .inl (x1), .inl (x2)] [.inl (z), .inl (x1)] M1 r M') : Ev X 56 8 [fx_f 9, .inl (x1), .inl (x2)] [] M r M' := by
  refine Ev.run 3 fd_e56 (i' := 11) (ls' := [fx_f 9, .inl (x1), .inl (x2)]) (st' := [.inl (x2), fx_f 9, .inl (x1)]) (M1 := M) rfl ?_
  refine Ev.callV (vs := [fx_f 9, .inl (x2)]) (rest := [.inl (x1)]) (r1 := (some (.inl z))) fd_e56 rfl rfl rfl (Nat.le_of_ble_eq_true rfl) (Nat.le_of_ble_eq_true rfl) rfl hc ?_
  exact k
theorem r56_12 {X : fx_Sc} {M M' : fx_M} {r : Option fx_V} {x1 x2 s0 s1 : Int} (g : (-2147483648 ≤ s0 ∧ s0 < 2147483648) ∧ (-2147483648 ≤ s1 ∧ s1 < 2147483648)) (k : Ev X 56 4 [fx_f 9, .inl ((if s0 < s1 then s1 else s0)), .inl ((x2 + 1))] [] M r M') : Ev X 56 12 [fx_f 9, .inl (x1), .inl (x2)] [.inl (s1), .inl (s0)] M r M' := by
  refine Ev.max fd_e56 rfl g.1 g.2 (Nat.le_of_ble_eq_true rfl) ?_
  refine Ev.run 3 fd_e56 (i' := 4) (ls' := [fx_f 9, .inl ((if s0 < s1 then s1 else s0)), .inl ((x2 + 1))]) (st' := []) (M1 := M) rfl ?_
  exact k
theorem r56_16 {X : fx_Sc} {M : fx_M} {x1 x2 : Int} : Ev X 56 16 [fx_f 9, .inl (x1), .inl (x2)] [] M (some (.inl (x1))) M := by
  refine Ev.run 1 fd_e56 (i' := 17) (ls' := [fx_f 9, .inl (x1), .inl (x2)]) (st' := [.inl (x1)]) (M1 := M) rfl ?_
  exact Ev.ret1 fd_e56 rfl rfl
-- 57: FoldedStrips$Lines.fromTopToBottom()I
theorem fd_e57 : fd_C 57 = fd_c57 := rfl
theorem r57_0 {X : fx_Sc} {M M' : fx_M} {r : Option fx_V} (k : Ev X 57 4 [fx_f 9, .inl (0), .inl (0), fx_u] [] M r M') : Ev X 57 0 [fx_f 9, fx_u, fx_u, fx_u] [] M r M' := by
  refine Ev.run 4 fd_e57 (i' := 4) (ls' := [fx_f 9, .inl (0), .inl (0), fx_u]) (st' := []) (M1 := M) rfl ?_
  exact k
theorem r57_4T {X : fx_Sc} {M M' : fx_M} {r : Option fx_V} {x1 x2 : Int} {v3 : fx_V} (g : (-2147483648 ≤ x2 ∧ x2 < 2147483648) ∧ (-2147483648 ≤ (M 9 0) ∧ (M 9 0) < 2147483648)) (h : (M 9 0) ≤ x2) (k : Ev X 57 31 [fx_f 9, .inl (x1), .inl (x2), v3] [] M r M') : Ev X 57 4 [fx_f 9, .inl (x1), .inl (x2), v3] [] M r M' := by
  refine Ev.run 3 fd_e57 (i' := 7) (ls' := [fx_f 9, .inl (x1), .inl (x2), v3]) (st' := [.inl ((M 9 0)), .inl (x2)]) (M1 := M) rfl ?_
  refine Ev.icT fd_e57 rfl g.1 g.2 (decide_eq_true h) ?_
  exact k
theorem r57_4F {X : fx_Sc} {M M' : fx_M} {r : Option fx_V} {x1 x2 : Int} {v3 : fx_V} (g : (-2147483648 ≤ x2 ∧ x2 < 2147483648) ∧ (-2147483648 ≤ (M 9 0) ∧ (M 9 0) < 2147483648)) (h : x2 < (M 9 0)) (k : Ev X 57 8 [fx_f 9, .inl (x1), .inl (x2), v3] [] M r M') : Ev X 57 4 [fx_f 9, .inl (x1), .inl (x2), v3] [] M r M' := by
  refine Ev.run 3 fd_e57 (i' := 7) (ls' := [fx_f 9, .inl (x1), .inl (x2), v3]) (st' := [.inl ((M 9 0)), .inl (x2)]) (M1 := M) rfl ?_
  refine Ev.icF fd_e57 rfl g.1 g.2 (decide_eq_false (Int.not_le.mpr h)) ?_
  exact k
theorem r57_8 {X : fx_Sc} {M M' : fx_M} {r : Option fx_V} {x1 x2 z : Int} {v3 : fx_V} {M1 : fx_M} (hc : Ev X 51 0 [fx_f 9, .inl (x2)] [] M (some (.inl z)) M1) (k : Ev X 57 11 [fx_f 9, .inl (x1), .inl (x2), v3] [.inl (z)] M1 r M') : Ev X 57 8 [fx_f 9, .inl (x1), .inl (x2), v3] [] M r M' := by
  refine Ev.run 2 fd_e57 (i' := 10) (ls' := [fx_f 9, .inl (x1), .inl (x2), v3]) (st' := [.inl (x2), fx_f 9]) (M1 := M) rfl ?_
  refine Ev.callV (vs := [fx_f 9, .inl (x2)]) (rest := []) (r1 := (some (.inl z))) fd_e57 rfl rfl rfl (Nat.le_of_ble_eq_true rfl) (Nat.le_of_ble_eq_true rfl) rfl hc ?_
  exact k
theorem r57_11T {X : fx_Sc} {M M' : fx_M} {r : Option fx_V} {x1 x2 s0 : Int} {v3 : fx_V} (g : (-2147483648 ≤ s0 ∧ s0 < 2147483648)) (h : s0 ≠ 0) (k : Ev X 57 19 [fx_f 9, .inl (x1), .inl (x2), v3] [] M r M') : Ev X 57 11 [fx_f 9, .inl (x1), .inl (x2), v3] [.inl (s0)] M r M' := by
  refine Ev.ifT fd_e57 rfl g (decide_eq_true h) ?_
  exact k
theorem r57_11F {X : fx_Sc} {M M' : fx_M} {r : Option fx_V} {x1 x2 s0 : Int} {v3 : fx_V} (g : (-2147483648 ≤ s0 ∧ s0 < 2147483648)) (h : s0 = 0) (k : Ev X 57 12 [fx_f 9, .inl (x1), .inl (x2), v3] [] M r M') : Ev X 57 11 [fx_f 9, .inl (x1), .inl (x2), v3] [.inl (s0)] M r M' := by
  refine Ev.ifF fd_e57 rfl g (decide_eq_false (not_not_intro h)) ?_
  exact k
theorem r57_12 {X : fx_Sc} {M M' : fx_M} {r : Option fx_V} {x1 x2 z : Int} {v3 : fx_V} {M1 : fx_M} (hc : Ev X 53 0 [fx_f 9, .inl (x2)] [] M (some (.inl z)) M1) (k : Ev X 57 15 [fx_f 9, .inl (x1), .inl (x2), v3] [.inl (z)] M1 r M') : Ev X 57 12 [fx_f 9, .inl (x1), .inl (x2), v3] [] M r M' := by
  refine Ev.run 2 fd_e57 (i' := 14) (ls' := [fx_f 9, .inl (x1), .inl (x2), v3]) (st' := [.inl (x2), fx_f 9]) (M1 := M) rfl ?_
  refine Ev.callV (vs := [fx_f 9, .inl (x2)]) (rest := []) (r1 := (some (.inl z))) fd_e57 rfl rfl rfl (Nat.le_of_ble_eq_true rfl) (Nat.le_of_ble_eq_true rfl) rfl hc ?_
  exact k
theorem r57_15T {X : fx_Sc} {M M' : fx_M} {r : Option fx_V} {x1 x2 s0 : Int} {v3 : fx_V} (g : (-2147483648 ≤ s0 ∧ s0 < 2147483648)) (h : 12 ≤ s0) (k : Ev X 57 19 [fx_f 9, .inl (x1), .inl (x2), v3] [] M r M') : Ev X 57 15 [fx_f 9, .inl (x1), .inl (x2), v3] [.inl (s0)] M r M' := by
  refine Ev.run 1 fd_e57 (i' := 16) (ls' := [fx_f 9, .inl (x1), .inl (x2), v3]) (st' := [.inl (12), .inl (s0)]) (M1 := M) rfl ?_
  refine Ev.icT fd_e57 rfl g (by decide) (decide_eq_true h) ?_
  exact k
theorem r57_15F {X : fx_Sc} {M M' : fx_M} {r : Option fx_V} {x1 x2 s0 : Int} {v3 : fx_V} (g : (-2147483648 ≤ s0 ∧ s0 < 2147483648)) (h : s0 < 12) (k : Ev X 57 17 [fx_f 9, .inl (x1), .inl (x2), v3] [] M r M') : Ev X 57 15 [fx_f 9, .inl (x1), .inl (x2), v3] [.inl (s0)] M r M' := by
  refine Ev.run 1 fd_e57 (i' := 16) (ls' := [fx_f 9, .inl (x1), .inl (x2), v3]) (st' := [.inl (12), .inl (s0)]) (M1 := M) rfl ?_
  refine Ev.icF fd_e57 rfl g (by decide) (decide_eq_false (Int.not_le.mpr h)) ?_
  exact k
theorem r57_17 {X : fx_Sc} {M M' : fx_M} {r : Option fx_V} {x1 x2 z : Int} {v3 : fx_V} {M1 : fx_M} (hc : Ev X 54 0 [fx_f 9, .inl (x2)] [] M (some (.inl z)) M1) (k : Ev X 57 26 [fx_f 9, .inl (x1), .inl (x2), .inl (1)] [.inl (z)] M1 r M') : Ev X 57 17 [fx_f 9, .inl (x1), .inl (x2), v3] [] M r M' := by
  refine Ev.run 4 fd_e57 (i' := 22) (ls' := [fx_f 9, .inl (x1), .inl (x2), .inl (1)]) (st' := [.inl (1)]) (M1 := M) rfl ?_
  refine Ev.ifF fd_e57 rfl (by decide) (by decide) ?_
  refine Ev.run 2 fd_e57 (i' := 25) (ls' := [fx_f 9, .inl (x1), .inl (x2), .inl (1)]) (st' := [.inl (x2), fx_f 9]) (M1 := M) rfl ?_
  refine Ev.callV (vs := [fx_f 9, .inl (x2)]) (rest := []) (r1 := (some (.inl z))) fd_e57 rfl rfl rfl (Nat.le_of_ble_eq_true rfl) (Nat.le_of_ble_eq_true rfl) rfl hc ?_
  exact k
theorem r57_19 {X : fx_Sc} {M M' : fx_M} {r : Option fx_V} {x1 x2 : Int} {v3 : fx_V} (k : Ev X 57 4 [fx_f 9, .inl (x1), .inl ((x2 + 1)), .inl (0)] [] M r M') : Ev X 57 19 [fx_f 9, .inl (x1), .inl (x2), v3] [] M r M' := by
  refine Ev.run 3 fd_e57 (i' := 22) (ls' := [fx_f 9, .inl (x1), .inl (x2), .inl (0)]) (st' := [.inl (0)]) (M1 := M) rfl ?_
  refine Ev.ifT fd_e57 rfl (by decide) (by decide) ?_
  refine Ev.run 2 fd_e57 (i' := 4) (ls' := [fx_f 9, .inl (x1), .inl ((x2 + 1)), .inl (0)]) (st' := []) (M1 := M) rfl ?_
  exact k
theorem r57_23 {X : fx_Sc} {M M' : fx_M} {r : Option fx_V} {x1 x2 x3 z : Int} {M1 : fx_M} (hc : Ev X 54 0 [fx_f 9, .inl (x2)] [] M (some (.inl z)) M1) (k : Ev X 57 26 [fx_f 9, .inl (x1), .inl (x2), .inl (x3)] [.inl (z)] M1 r M') : Ev X 57 23 [fx_f 9, .inl (x1), .inl (x2), .inl (x3)] [] M r M' := by
  refine Ev.run 2 fd_e57 (i' := 25) (ls' := [fx_f 9, .inl (x1), .inl (x2), .inl (x3)]) (st' := [.inl (x2), fx_f 9]) (M1 := M) rfl ?_
  refine Ev.callV (vs := [fx_f 9, .inl (x2)]) (rest := []) (r1 := (some (.inl z))) fd_e57 rfl rfl rfl (Nat.le_of_ble_eq_true rfl) (Nat.le_of_ble_eq_true rfl) rfl hc ?_
  exact k
theorem r57_26T {X : fx_Sc} {M M' : fx_M} {r : Option fx_V} {x1 x2 x3 s0 : Int} (g : (-2147483648 ≤ s0 ∧ s0 < 2147483648)) (h : s0 < 132) (k : Ev X 57 29 [fx_f 9, .inl (x1), .inl (x2), .inl (x3)] [] M r M') : Ev X 57 26 [fx_f 9, .inl (x1), .inl (x2), .inl (x3)] [.inl (s0)] M r M' := by
  refine Ev.run 1 fd_e57 (i' := 27) (ls' := [fx_f 9, .inl (x1), .inl (x2), .inl (x3)]) (st' := [.inl (132), .inl (s0)]) (M1 := M) rfl ?_
  refine Ev.icT fd_e57 rfl g (by decide) (decide_eq_true h) ?_
  exact k
theorem r57_26F {X : fx_Sc} {M M' : fx_M} {r : Option fx_V} {x1 x2 x3 s0 : Int} (g : (-2147483648 ≤ s0 ∧ s0 < 2147483648)) (h : 132 ≤ s0) (k : Ev X 57 28 [fx_f 9, .inl (x1), .inl (x2), .inl (x3)] [] M r M') : Ev X 57 26 [fx_f 9, .inl (x1), .inl (x2), .inl (x3)] [.inl (s0)] M r M' := by
  refine Ev.run 1 fd_e57 (i' := 27) (ls' := [fx_f 9, .inl (x1), .inl (x2), .inl (x3)]) (st' := [.inl (132), .inl (s0)]) (M1 := M) rfl ?_
  refine Ev.icF fd_e57 rfl g (by decide) (decide_eq_false (Int.not_lt.mpr h)) ?_
  exact k
theorem r57_28 {X : fx_Sc} {M M' : fx_M} {r : Option fx_V} {x1 x2 x3 : Int} (k : Ev X 57 4 [fx_f 9, .inl ((x1 + 1)), .inl ((x2 + 1)), .inl (x3)] [] M r M') : Ev X 57 28 [fx_f 9, .inl (x1), .inl (x2), .inl (x3)] [] M r M' := by
  refine Ev.run 3 fd_e57 (i' := 4) (ls' := [fx_f 9, .inl ((x1 + 1)), .inl ((x2 + 1)), .inl (x3)]) (st' := []) (M1 := M) rfl ?_
  exact k
theorem r57_29 {X : fx_Sc} {M M' : fx_M} {r : Option fx_V} {x1 x2 x3 : Int} (k : Ev X 57 4 [fx_f 9, .inl (x1), .inl ((x2 + 1)), .inl (x3)] [] M r M') : Ev X 57 29 [fx_f 9, .inl (x1), .inl (x2), .inl (x3)] [] M r M' := by
  refine Ev.run 2 fd_e57 (i' := 4) (ls' := [fx_f 9, .inl (x1), .inl ((x2 + 1)), .inl (x3)]) (st' := []) (M1 := M) rfl ?_
  exact k
theorem r57_31 {X : fx_Sc} {M : fx_M} {x1 x2 : Int} {v3 : fx_V} : Ev X 57 31 [fx_f 9, .inl (x1), .inl (x2), v3] [] M (some (.inl (x1))) M := by
  refine Ev.run 1 fd_e57 (i' := 32) (ls' := [fx_f 9, .inl (x1), .inl (x2), v3]) (st' := [.inl (x1)]) (M1 := M) rfl ?_
  exact Ev.ret1 fd_e57 rfl rfl
-- 74: FoldedStrips$Slots.keep(ILFoldedStrips$Strip;)V
theorem fd_e74 : fd_C 74 = fd_c74 := rfl
theorem r74_0 {X : fx_Sc} {M M' : fx_M} {r : Option fx_V} {a : Nat} {x1 z : Int} {M1 : fx_M} (hc : Ev X 36 0 [.inl (x1)] [] M (some (.inl z)) M1) (k : Ev X 74 2 [fx_f 45, .inl (x1), fx_f a] [.inl (z)] M1 r M') : Ev X 74 0 [fx_f 45, .inl (x1), fx_f a] [] M r M' := by
  refine Ev.run 1 fd_e74 (i' := 1) (ls' := [fx_f 45, .inl (x1), fx_f a]) (st' := [.inl (x1)]) (M1 := M) rfl ?_
  refine Ev.callS (vs := [.inl (x1)]) (rest := []) (r1 := (some (.inl z))) fd_e74 rfl rfl rfl (Nat.le_of_ble_eq_true rfl) (Nat.le_of_ble_eq_true rfl) hc ?_
  exact k
theorem r74_2T {X : fx_Sc} {M M' : fx_M} {r : Option fx_V} {a : Nat} {x1 s0 : Int} (g : (-2147483648 ≤ s0 ∧ s0 < 2147483648)) (h : s0 = 0) (k : Ev X 74 19 [fx_f 45, .inl (x1), fx_f a] [] M r M') : Ev X 74 2 [fx_f 45, .inl (x1), fx_f a] [.inl (s0)] M r M' := by
  refine Ev.ifT fd_e74 rfl g (decide_eq_true h) ?_
  exact k
theorem r74_2F {X : fx_Sc} {M M' : fx_M} {r : Option fx_V} {a : Nat} {x1 s0 : Int} (g : (-2147483648 ≤ s0 ∧ s0 < 2147483648)) (h : s0 ≠ 0) (k : Ev X 74 3 [fx_f 45, .inl (x1), fx_f a] [] M r M') : Ev X 74 2 [fx_f 45, .inl (x1), fx_f a] [.inl (s0)] M r M' := by
  refine Ev.ifF fd_e74 rfl g (decide_eq_false h) ?_
  exact k
theorem r74_3 {X : fx_Sc} {M M' : fx_M} {r : Option fx_V} {a : Nat} {x1 : Int} {q1 q2 : Nat} {M1 : fx_M} (hq1 : ([48, 52] : List Nat)[(x1).toNat]? = some q1) (hq2 : ([48, 52] : List Nat)[(x1).toNat]? = some q2) (hsq2 : fd_isS q2) (g : (0 ≤ x1 ∧ x1 < ((2 : Nat) : Int))) (hc : Ev X 77 0 [fx_f q2, fx_f a] [] M none M1) (k : Ev X 74 14 [fx_f 45, .inl (x1), fx_f a] [] M1 r M') : Ev X 74 3 [fx_f 45, .inl (x1), fx_f a] [] M r M' := by
  refine Ev.run 3 fd_e74 (i' := 6) (ls' := [fx_f 45, .inl (x1), fx_f a]) (st' := [.inl (x1), fx_f 46]) (M1 := M) rfl ?_
  refine Ev.aald fd_e74 rfl rfl g (by decide) hq1 ?_
  refine Ev.run 4 fd_e74 (i' := 11) (ls' := [fx_f 45, .inl (x1), fx_f a]) (st' := [.inl (x1), fx_f 46]) (M1 := M) rfl ?_
  refine Ev.aald fd_e74 rfl rfl g (by decide) hq2 ?_
  refine Ev.run 1 fd_e74 (i' := 13) (ls' := [fx_f 45, .inl (x1), fx_f a]) (st' := [fx_f a, fx_f q2]) (M1 := M) rfl ?_
  refine Ev.callV (vs := [fx_f q2, fx_f a]) (rest := []) (r1 := none) fd_e74 rfl rfl rfl (Nat.le_of_ble_eq_true rfl) (Nat.le_of_ble_eq_true rfl) (fd_rcvS hsq2) hc ?_
  exact k
theorem r74_14 {X : fx_Sc} {M : fx_M} {a : Nat} {x1 : Int} (g : (0 ≤ x1 ∧ x1 < ((2 : Nat) : Int))) : Ev X 74 14 [fx_f 45, .inl (x1), fx_f a] [] M none (fx_set M 47 (fx_up (M 47) (x1).toNat 1)) := by
  refine Ev.run 4 fd_e74 (i' := 18) (ls' := [fx_f 45, .inl (x1), fx_f a]) (st' := [.inl (1), .inl (x1), fx_f 47]) (M1 := M) rfl ?_
  refine Ev.bast fd_e74 rfl rfl (by decide) g (by decide) ?_
  exact Ev.retv fd_e74 rfl rfl
theorem r74_19 {X : fx_Sc} {M : fx_M} {a : Nat} {x1 : Int} : Ev X 74 19 [fx_f 45, .inl (x1), fx_f a] [] M none M := by
  exact Ev.retv fd_e74 rfl rfl
-- 75: FoldedStrips$Slots.isKept(I)Z
theorem fd_e75 : fd_C 75 = fd_c75 := rfl
theorem r75_0 {X : fx_Sc} {M M' : fx_M} {r : Option fx_V} {x1 z : Int} {M1 : fx_M} (hc : Ev X 36 0 [.inl (x1)] [] M (some (.inl z)) M1) (k : Ev X 75 2 [fx_f 45, .inl (x1)] [.inl (z)] M1 r M') : Ev X 75 0 [fx_f 45, .inl (x1)] [] M r M' := by
  refine Ev.run 1 fd_e75 (i' := 1) (ls' := [fx_f 45, .inl (x1)]) (st' := [.inl (x1)]) (M1 := M) rfl ?_
  refine Ev.callS (vs := [.inl (x1)]) (rest := []) (r1 := (some (.inl z))) fd_e75 rfl rfl rfl (Nat.le_of_ble_eq_true rfl) (Nat.le_of_ble_eq_true rfl) hc ?_
  exact k
theorem r75_2T {X : fx_Sc} {M M' : fx_M} {r : Option fx_V} {x1 s0 : Int} (g : (-2147483648 ≤ s0 ∧ s0 < 2147483648)) (h : s0 = 0) (k : Ev X 75 15 [fx_f 45, .inl (x1)] [] M r M') : Ev X 75 2 [fx_f 45, .inl (x1)] [.inl (s0)] M r M' := by
  refine Ev.ifT fd_e75 rfl g (decide_eq_true h) ?_
  exact k
theorem r75_2F {X : fx_Sc} {M M' : fx_M} {r : Option fx_V} {x1 s0 : Int} (g : (-2147483648 ≤ s0 ∧ s0 < 2147483648)) (h : s0 ≠ 0) (k : Ev X 75 3 [fx_f 45, .inl (x1)] [] M r M') : Ev X 75 2 [fx_f 45, .inl (x1)] [.inl (s0)] M r M' := by
  refine Ev.ifF fd_e75 rfl g (decide_eq_false h) ?_
  exact k
theorem r75_3T {X : fx_Sc} {M M' : fx_M} {r : Option fx_V} {x1 : Int} (g : (0 ≤ x1 ∧ x1 < ((2 : Nat) : Int)) ∧ (-2147483648 ≤ (M 47 (x1).toNat) ∧ (M 47 (x1).toNat) < 2147483648)) (h : (M 47 (x1).toNat) = 0) (k : Ev X 75 15 [fx_f 45, .inl (x1)] [] M r M') : Ev X 75 3 [fx_f 45, .inl (x1)] [] M r M' := by
  refine Ev.run 3 fd_e75 (i' := 6) (ls' := [fx_f 45, .inl (x1)]) (st' := [.inl (x1), fx_f 47]) (M1 := M) rfl ?_
  refine Ev.bald fd_e75 rfl rfl (by decide) g.1 ?_
  refine Ev.ifT fd_e75 rfl g.2 (decide_eq_true h) ?_
  exact k
theorem r75_3F {X : fx_Sc} {M M' : fx_M} {r : Option fx_V} {x1 : Int} (g : (0 ≤ x1 ∧ x1 < ((2 : Nat) : Int)) ∧ (-2147483648 ≤ (M 47 (x1).toNat) ∧ (M 47 (x1).toNat) < 2147483648)) (h : (M 47 (x1).toNat) ≠ 0) (k : Ev X 75 8 [fx_f 45, .inl (x1)] [] M r M') : Ev X 75 3 [fx_f 45, .inl (x1)] [] M r M' := by
  refine Ev.run 3 fd_e75 (i' := 6) (ls' := [fx_f 45, .inl (x1)]) (st' := [.inl (x1), fx_f 47]) (M1 := M) rfl ?_
  refine Ev.bald fd_e75 rfl rfl (by decide) g.1 ?_
  refine Ev.ifF fd_e75 rfl g.2 (decide_eq_false h) ?_
  exact k
theorem r75_8 {X : fx_Sc} {M : fx_M} {x1 : Int} {q1 : Nat} (hq1 : ([48, 52] : List Nat)[(x1).toNat]? = some q1) (g : (0 ≤ x1 ∧ x1 < ((2 : Nat) : Int))) : Ev X 75 8 [fx_f 45, .inl (x1)] [] M (some (.inl (1))) M := by
  refine Ev.run 3 fd_e75 (i' := 11) (ls' := [fx_f 45, .inl (x1)]) (st' := [.inl (x1), fx_f 46]) (M1 := M) rfl ?_
  refine Ev.aald fd_e75 rfl rfl g (by decide) hq1 ?_
  refine Ev.run 3 fd_e75 (i' := 16) (ls' := [fx_f 45, .inl (x1)]) (st' := [.inl (1)]) (M1 := M) rfl ?_
  exact Ev.ret2 fd_e75 rfl rfl (by decide)
theorem r75_15 {X : fx_Sc} {M : fx_M} {x1 : Int} : Ev X 75 15 [fx_f 45, .inl (x1)] [] M (some (.inl (0))) M := by
  refine Ev.run 1 fd_e75 (i' := 16) (ls' := [fx_f 45, .inl (x1)]) (st' := [.inl (0)]) (M1 := M) rfl ?_
  exact Ev.ret2 fd_e75 rfl rfl (by decide)
-- 76: FoldedStrips$Slots.fetch(ILFoldedStrips$Strip;)V
theorem fd_e76 : fd_C 76 = fd_c76 := rfl
theorem r76_0 {X : fx_Sc} {M M' : fx_M} {r : Option fx_V} {a : Nat} {x1 z : Int} {M1 : fx_M} (hc : Ev X 75 0 [fx_f 45, .inl (x1)] [] M (some (.inl z)) M1) (k : Ev X 76 3 [fx_f 45, .inl (x1), fx_f a] [.inl (z)] M1 r M') : Ev X 76 0 [fx_f 45, .inl (x1), fx_f a] [] M r M' := by
  refine Ev.run 2 fd_e76 (i' := 2) (ls' := [fx_f 45, .inl (x1), fx_f a]) (st' := [.inl (x1), fx_f 45]) (M1 := M) rfl ?_
  refine Ev.callV (vs := [fx_f 45, .inl (x1)]) (rest := []) (r1 := (some (.inl z))) fd_e76 rfl rfl rfl (Nat.le_of_ble_eq_true rfl) (Nat.le_of_ble_eq_true rfl) rfl hc ?_
  exact k
theorem r76_3T {X : fx_Sc} {M M' : fx_M} {r : Option fx_V} {a : Nat} {x1 s0 : Int} (g : (-2147483648 ≤ s0 ∧ s0 < 2147483648)) (h : s0 = 0) (k : Ev X 76 10 [fx_f 45, .inl (x1), fx_f a] [] M r M') : Ev X 76 3 [fx_f 45, .inl (x1), fx_f a] [.inl (s0)] M r M' := by
  refine Ev.ifT fd_e76 rfl g (decide_eq_true h) ?_
  exact k
theorem r76_3F {X : fx_Sc} {M M' : fx_M} {r : Option fx_V} {a : Nat} {x1 s0 : Int} (g : (-2147483648 ≤ s0 ∧ s0 < 2147483648)) (h : s0 ≠ 0) (k : Ev X 76 4 [fx_f 45, .inl (x1), fx_f a] [] M r M') : Ev X 76 3 [fx_f 45, .inl (x1), fx_f a] [.inl (s0)] M r M' := by
  refine Ev.ifF fd_e76 rfl g (decide_eq_false h) ?_
  exact k
theorem r76_4 {X : fx_Sc} {M M' : fx_M} {r : Option fx_V} {a : Nat} {x1 : Int} {q1 : Nat} {M1 : fx_M} (ha : fd_isS a) (hq1 : ([48, 52] : List Nat)[(x1).toNat]? = some q1) (g : (0 ≤ x1 ∧ x1 < ((2 : Nat) : Int))) (hc : Ev X 77 0 [fx_f a, fx_f q1] [] M none M1) (k : Ev X 76 10 [fx_f 45, .inl (x1), fx_f a] [] M1 r M') : Ev X 76 4 [fx_f 45, .inl (x1), fx_f a] [] M r M' := by
  refine Ev.run 4 fd_e76 (i' := 8) (ls' := [fx_f 45, .inl (x1), fx_f a]) (st' := [.inl (x1), fx_f 46, fx_f a]) (M1 := M) rfl ?_
  refine Ev.aald fd_e76 rfl rfl g (by decide) hq1 ?_
  refine Ev.callV (vs := [fx_f a, fx_f q1]) (rest := []) (r1 := none) fd_e76 rfl rfl rfl (Nat.le_of_ble_eq_true rfl) (Nat.le_of_ble_eq_true rfl) (fd_rcvS ha) hc ?_
  exact k
theorem r76_10 {X : fx_Sc} {M : fx_M} {a : Nat} {x1 : Int} : Ev X 76 10 [fx_f 45, .inl (x1), fx_f a] [] M none M := by
  exact Ev.retv fd_e76 rfl rfl
-- 182: java/lang/Integer.bitCount(I)I
theorem fd_e182 : fd_C 182 = fd_c182 := rfl
theorem r182_0 {X : fx_Sc} {M : fx_M} {x0 : Int} : Ev X 182 0 [.inl (x0)] [] M (some (.inl ((fx_and (((fx_and (((fx_and (x0 - (fx_and (fx_ushr x0 1) 1431655765)) 858993459) + (fx_and (fx_ushr (x0 - (fx_and (fx_ushr x0 1) 1431655765)) 2) 858993459)) + (fx_ushr ((fx_and (x0 - (fx_and (fx_ushr x0 1) 1431655765)) 858993459) + (fx_and (fx_ushr (x0 - (fx_and (fx_ushr x0 1) 1431655765)) 2) 858993459)) 4)) 252645135) + (fx_ushr (fx_and (((fx_and (x0 - (fx_and (fx_ushr x0 1) 1431655765)) 858993459) + (fx_and (fx_ushr (x0 - (fx_and (fx_ushr x0 1) 1431655765)) 2) 858993459)) + (fx_ushr ((fx_and (x0 - (fx_and (fx_ushr x0 1) 1431655765)) 858993459) + (fx_and (fx_ushr (x0 - (fx_and (fx_ushr x0 1) 1431655765)) 2) 858993459)) 4)) 252645135) 8)) + (fx_ushr ((fx_and (((fx_and (x0 - (fx_and (fx_ushr x0 1) 1431655765)) 858993459) + (fx_and (fx_ushr (x0 - (fx_and (fx_ushr x0 1) 1431655765)) 2) 858993459)) + (fx_ushr ((fx_and (x0 - (fx_and (fx_ushr x0 1) 1431655765)) 858993459) + (fx_and (fx_ushr (x0 - (fx_and (fx_ushr x0 1) 1431655765)) 2) 858993459)) 4)) 252645135) + (fx_ushr (fx_and (((fx_and (x0 - (fx_and (fx_ushr x0 1) 1431655765)) 858993459) + (fx_and (fx_ushr (x0 - (fx_and (fx_ushr x0 1) 1431655765)) 2) 858993459)) + (fx_ushr ((fx_and (x0 - (fx_and (fx_ushr x0 1) 1431655765)) 858993459) + (fx_and (fx_ushr (x0 - (fx_and (fx_ushr x0 1) 1431655765)) 2) 858993459)) 4)) 252645135) 8)) 16)) 63)))) M := by
  refine Ev.run 41 fd_e182 (i' := 41) (ls' := [.inl ((((fx_and (((fx_and (x0 - (fx_and (fx_ushr x0 1) 1431655765)) 858993459) + (fx_and (fx_ushr (x0 - (fx_and (fx_ushr x0 1) 1431655765)) 2) 858993459)) + (fx_ushr ((fx_and (x0 - (fx_and (fx_ushr x0 1) 1431655765)) 858993459) + (fx_and (fx_ushr (x0 - (fx_and (fx_ushr x0 1) 1431655765)) 2) 858993459)) 4)) 252645135) + (fx_ushr (fx_and (((fx_and (x0 - (fx_and (fx_ushr x0 1) 1431655765)) 858993459) + (fx_and (fx_ushr (x0 - (fx_and (fx_ushr x0 1) 1431655765)) 2) 858993459)) + (fx_ushr ((fx_and (x0 - (fx_and (fx_ushr x0 1) 1431655765)) 858993459) + (fx_and (fx_ushr (x0 - (fx_and (fx_ushr x0 1) 1431655765)) 2) 858993459)) 4)) 252645135) 8)) + (fx_ushr ((fx_and (((fx_and (x0 - (fx_and (fx_ushr x0 1) 1431655765)) 858993459) + (fx_and (fx_ushr (x0 - (fx_and (fx_ushr x0 1) 1431655765)) 2) 858993459)) + (fx_ushr ((fx_and (x0 - (fx_and (fx_ushr x0 1) 1431655765)) 858993459) + (fx_and (fx_ushr (x0 - (fx_and (fx_ushr x0 1) 1431655765)) 2) 858993459)) 4)) 252645135) + (fx_ushr (fx_and (((fx_and (x0 - (fx_and (fx_ushr x0 1) 1431655765)) 858993459) + (fx_and (fx_ushr (x0 - (fx_and (fx_ushr x0 1) 1431655765)) 2) 858993459)) + (fx_ushr ((fx_and (x0 - (fx_and (fx_ushr x0 1) 1431655765)) 858993459) + (fx_and (fx_ushr (x0 - (fx_and (fx_ushr x0 1) 1431655765)) 2) 858993459)) 4)) 252645135) 8)) 16)))]) (st' := [.inl ((fx_and (((fx_and (((fx_and (x0 - (fx_and (fx_ushr x0 1) 1431655765)) 858993459) + (fx_and (fx_ushr (x0 - (fx_and (fx_ushr x0 1) 1431655765)) 2) 858993459)) + (fx_ushr ((fx_and (x0 - (fx_and (fx_ushr x0 1) 1431655765)) 858993459) + (fx_and (fx_ushr (x0 - (fx_and (fx_ushr x0 1) 1431655765)) 2) 858993459)) 4)) 252645135) + (fx_ushr (fx_and (((fx_and (x0 - (fx_and (fx_ushr x0 1) 1431655765)) 858993459) + (fx_and (fx_ushr (x0 - (fx_and (fx_ushr x0 1) 1431655765)) 2) 858993459)) + (fx_ushr ((fx_and (x0 - (fx_and (fx_ushr x0 1) 1431655765)) 858993459) + (fx_and (fx_ushr (x0 - (fx_and (fx_ushr x0 1) 1431655765)) 2) 858993459)) 4)) 252645135) 8)) + (fx_ushr ((fx_and (((fx_and (x0 - (fx_and (fx_ushr x0 1) 1431655765)) 858993459) + (fx_and (fx_ushr (x0 - (fx_and (fx_ushr x0 1) 1431655765)) 2) 858993459)) + (fx_ushr ((fx_and (x0 - (fx_and (fx_ushr x0 1) 1431655765)) 858993459) + (fx_and (fx_ushr (x0 - (fx_and (fx_ushr x0 1) 1431655765)) 2) 858993459)) 4)) 252645135) + (fx_ushr (fx_and (((fx_and (x0 - (fx_and (fx_ushr x0 1) 1431655765)) 858993459) + (fx_and (fx_ushr (x0 - (fx_and (fx_ushr x0 1) 1431655765)) 2) 858993459)) + (fx_ushr ((fx_and (x0 - (fx_and (fx_ushr x0 1) 1431655765)) 858993459) + (fx_and (fx_ushr (x0 - (fx_and (fx_ushr x0 1) 1431655765)) 2) 858993459)) 4)) 252645135) 8)) 16)) 63))]) (M1 := M) rfl ?_
  exact Ev.ret1 fd_e182 rfl rfl
-- 183: java/util/Arrays.fill([II)V
theorem fd_e183 : fd_C 183 = fd_c183 := rfl
theorem r183_0 {X : fx_Sc} {M M' : fx_M} {r : Option fx_V} {a : Nat} {x1 : Int} {K : Nat} (hA : fd_SH[a]? = some (.inl (0, K))) (hK : K < 2147483648) (k : Ev X 183 5 [fx_f a, .inl (x1), .inl (0), .inl ((K : Int))] [] M r M') : Ev X 183 0 [fx_f a, .inl (x1), fx_u, fx_u] [] M r M' := by
  refine Ev.run 3 fd_e183 (i' := 3) (ls' := [fx_f a, .inl (x1), .inl (0), fx_u]) (st' := [fx_f a]) (M1 := M) rfl ?_
  refine Ev.alen fd_e183 rfl hA ?_
  refine Ev.run 1 fd_e183 (i' := 5) (ls' := [fx_f a, .inl (x1), .inl (0), .inl ((K : Int))]) (st' := []) (M1 := M) rfl ?_
  exact k
theorem r183_5T {X : fx_Sc} {M M' : fx_M} {r : Option fx_V} {a : Nat} {x1 x2 x3 : Int} (g : (-2147483648 ≤ x2 ∧ x2 < 2147483648) ∧ (-2147483648 ≤ x3 ∧ x3 < 2147483648)) (h : x3 ≤ x2) (k : Ev X 183 14 [fx_f a, .inl (x1), .inl (x2), .inl (x3)] [] M r M') : Ev X 183 5 [fx_f a, .inl (x1), .inl (x2), .inl (x3)] [] M r M' := by
  refine Ev.run 2 fd_e183 (i' := 7) (ls' := [fx_f a, .inl (x1), .inl (x2), .inl (x3)]) (st' := [.inl (x3), .inl (x2)]) (M1 := M) rfl ?_
  refine Ev.icT fd_e183 rfl g.1 g.2 (decide_eq_true h) ?_
  exact k
theorem r183_5F {X : fx_Sc} {M M' : fx_M} {r : Option fx_V} {a : Nat} {x1 x2 x3 : Int} (g : (-2147483648 ≤ x2 ∧ x2 < 2147483648) ∧ (-2147483648 ≤ x3 ∧ x3 < 2147483648)) (h : x2 < x3) (k : Ev X 183 8 [fx_f a, .inl (x1), .inl (x2), .inl (x3)] [] M r M') : Ev X 183 5 [fx_f a, .inl (x1), .inl (x2), .inl (x3)] [] M r M' := by
  refine Ev.run 2 fd_e183 (i' := 7) (ls' := [fx_f a, .inl (x1), .inl (x2), .inl (x3)]) (st' := [.inl (x3), .inl (x2)]) (M1 := M) rfl ?_
  refine Ev.icF fd_e183 rfl g.1 g.2 (decide_eq_false (Int.not_le.mpr h)) ?_
  exact k
theorem r183_8 {X : fx_Sc} {M M' : fx_M} {r : Option fx_V} {a : Nat} {x1 x2 x3 : Int} {K : Nat} (hA : fd_SH[a]? = some (.inl (0, K))) (hK : K < 2147483648) (g : (0 ≤ x2 ∧ x2 < ((K : Nat) : Int))) (k : Ev X 183 5 [fx_f a, .inl (x1), .inl ((x2 + 1)), .inl (x3)] [] (fx_set M a (fx_up (M a) (x2).toNat x1)) r M') : Ev X 183 8 [fx_f a, .inl (x1), .inl (x2), .inl (x3)] [] M r M' := by
  refine Ev.run 3 fd_e183 (i' := 11) (ls' := [fx_f a, .inl (x1), .inl (x2), .inl (x3)]) (st' := [.inl (x1), .inl (x2), fx_f a]) (M1 := M) rfl ?_
  refine Ev.iast fd_e183 rfl hA hK g ?_
  refine Ev.run 2 fd_e183 (i' := 5) (ls' := [fx_f a, .inl (x1), .inl ((x2 + 1)), .inl (x3)]) (st' := []) (M1 := (fx_set M a (fx_up (M a) (x2).toNat x1))) rfl ?_
  exact k
theorem r183_14 {X : fx_Sc} {M : fx_M} {a : Nat} {x1 x2 x3 : Int} : Ev X 183 14 [fx_f a, .inl (x1), .inl (x2), .inl (x3)] [] M none M := by
  exact Ev.retv fd_e183 rfl rfl
-- 192: FoldedStrips$History.stateAt(I)LFoldedStrips$Strip;
theorem fd_e192 : fd_C 192 = fd_c192 := rfl
theorem r192_0T {X : fx_Sc} {M M' : fx_M} {r : Option fx_V} {x1 : Int} (g : (-2147483648 ≤ x1 ∧ x1 < 2147483648)) (h : x1 < 0) (k : Ev X 192 10 [fx_f 19, .inl (x1)] [] M r M') : Ev X 192 0 [fx_f 19, .inl (x1)] [] M r M' := by
  refine Ev.run 1 fd_e192 (i' := 1) (ls' := [fx_f 19, .inl (x1)]) (st' := [.inl (x1)]) (M1 := M) rfl ?_
  refine Ev.ifT fd_e192 rfl g (decide_eq_true h) ?_
  exact k
theorem r192_0F {X : fx_Sc} {M M' : fx_M} {r : Option fx_V} {x1 : Int} (g : (-2147483648 ≤ x1 ∧ x1 < 2147483648)) (h : 0 ≤ x1) (k : Ev X 192 2 [fx_f 19, .inl (x1)] [] M r M') : Ev X 192 0 [fx_f 19, .inl (x1)] [] M r M' := by
  refine Ev.run 1 fd_e192 (i' := 1) (ls' := [fx_f 19, .inl (x1)]) (st' := [.inl (x1)]) (M1 := M) rfl ?_
  refine Ev.ifF fd_e192 rfl g (decide_eq_false (Int.not_lt.mpr h)) ?_
  exact k
theorem r192_2T {X : fx_Sc} {M M' : fx_M} {r : Option fx_V} {x1 : Int} (g : (-2147483648 ≤ x1 ∧ x1 < 2147483648)) (h : 6 ≤ x1) (k : Ev X 192 10 [fx_f 19, .inl (x1)] [] M r M') : Ev X 192 2 [fx_f 19, .inl (x1)] [] M r M' := by
  refine Ev.run 2 fd_e192 (i' := 4) (ls' := [fx_f 19, .inl (x1)]) (st' := [.inl (6), .inl (x1)]) (M1 := M) rfl ?_
  refine Ev.icT fd_e192 rfl g (by decide) (decide_eq_true h) ?_
  exact k
theorem r192_2F {X : fx_Sc} {M M' : fx_M} {r : Option fx_V} {x1 : Int} (g : (-2147483648 ≤ x1 ∧ x1 < 2147483648)) (h : x1 < 6) (k : Ev X 192 5 [fx_f 19, .inl (x1)] [] M r M') : Ev X 192 2 [fx_f 19, .inl (x1)] [] M r M' := by
  refine Ev.run 2 fd_e192 (i' := 4) (ls' := [fx_f 19, .inl (x1)]) (st' := [.inl (6), .inl (x1)]) (M1 := M) rfl ?_
  refine Ev.icF fd_e192 rfl g (by decide) (decide_eq_false (Int.not_le.mpr h)) ?_
  exact k
theorem r192_5 {X : fx_Sc} {M : fx_M} {x1 : Int} {q1 : Nat} (hq1 : ([21, 25, 29, 33, 37, 41] : List Nat)[(x1).toNat]? = some q1) (g : (0 ≤ x1 ∧ x1 < ((6 : Nat) : Int))) : Ev X 192 5 [fx_f 19, .inl (x1)] [] M (some (fx_f q1)) M := by
  refine Ev.run 3 fd_e192 (i' := 8) (ls' := [fx_f 19, .inl (x1)]) (st' := [.inl (x1), fx_f 20]) (M1 := M) rfl ?_
  refine Ev.aald fd_e192 rfl rfl g (by decide) hq1 ?_
  refine Ev.run 1 fd_e192 (i' := 11) (ls' := [fx_f 19, .inl (x1)]) (st' := [fx_f q1]) (M1 := M) rfl ?_
  exact Ev.ret4 fd_e192 rfl rfl

-- 191: FoldedStripsLaw.law([I)Z
theorem fd_e191 : fd_C 191 = fd_c191 := rfl
theorem r191_0 {X : fx_Sc} {M M' : fx_M} {r : Option fx_V} (k : Ev X 191 2 [fx_f 71, fx_f 0, fx_f 56, .inl (0)] [] M r M') : Ev X 191 0 [fx_f 71, fx_f 0, fx_f 56, fx_u] [] M r M' := by
  refine Ev.run 2 fd_e191 (i' := 2) (ls' := [fx_f 71, fx_f 0, fx_f 56, .inl (0)]) (st' := []) (M1 := M) rfl ?_
  exact k
theorem r191_2T {X : fx_Sc} {M M' : fx_M} {r : Option fx_V} {x3 : Int} (h0 : 0 < X.1) (g : (-2147483648 ≤ x3 ∧ x3 < 2147483648) ∧ (-2147483648 ≤ ((X.1 : Int) - 4) ∧ ((X.1 : Int) - 4) < 2147483648)) (h : ((X.1 : Int) - 4) < x3) (k : Ev X 191 561 [fx_f 71, fx_f 0, fx_f 56, .inl (x3)] [] M r M') : Ev X 191 2 [fx_f 71, fx_f 0, fx_f 56, .inl (x3)] [] M r M' := by
  refine Ev.run 2 fd_e191 (i' := 4) (ls' := [fx_f 71, fx_f 0, fx_f 56, .inl (x3)]) (st' := [fx_f 71, .inl (x3)]) (M1 := M) rfl ?_
  refine Ev.xlen fd_e191 rfl h0 ?_
  refine Ev.run 2 fd_e191 (i' := 7) (ls' := [fx_f 71, fx_f 0, fx_f 56, .inl (x3)]) (st' := [.inl (((X.1 : Int) - 4)), .inl (x3)]) (M1 := M) rfl ?_
  refine Ev.icT fd_e191 rfl g.1 g.2 (decide_eq_true h) ?_
  exact k
theorem r191_2F {X : fx_Sc} {M M' : fx_M} {r : Option fx_V} {x3 : Int} (h0 : 0 < X.1) (g : (-2147483648 ≤ x3 ∧ x3 < 2147483648) ∧ (-2147483648 ≤ ((X.1 : Int) - 4) ∧ ((X.1 : Int) - 4) < 2147483648)) (h : x3 ≤ ((X.1 : Int) - 4)) (k : Ev X 191 8 [fx_f 71, fx_f 0, fx_f 56, .inl (x3)] [] M r M') : Ev X 191 2 [fx_f 71, fx_f 0, fx_f 56, .inl (x3)] [] M r M' := by
  refine Ev.run 2 fd_e191 (i' := 4) (ls' := [fx_f 71, fx_f 0, fx_f 56, .inl (x3)]) (st' := [fx_f 71, .inl (x3)]) (M1 := M) rfl ?_
  refine Ev.xlen fd_e191 rfl h0 ?_
  refine Ev.run 2 fd_e191 (i' := 7) (ls' := [fx_f 71, fx_f 0, fx_f 56, .inl (x3)]) (st' := [.inl (((X.1 : Int) - 4)), .inl (x3)]) (M1 := M) rfl ?_
  refine Ev.icF fd_e191 rfl g.1 g.2 (decide_eq_false (Int.not_lt.mpr h)) ?_
  exact k
theorem r191_8D {X : fx_Sc} {M M' : fx_M} {r : Option fx_V} {x3 : Int} (hX : X.1 < 2147483648) (g : (0 ≤ x3 ∧ x3 < (X.1 : Int)) ∧ (-2147483648 ≤ (fx_and (X.2 (x3).toNat) 31) ∧ (fx_and (X.2 (x3).toNat) 31) < 2147483648)) (h : (fx_and (X.2 (x3).toNat) 31) < 0 ∨ 22 < (fx_and (X.2 (x3).toNat) 31)) (k : Ev X 191 559 [fx_f 71, fx_f 0, fx_f 56, .inl (x3)] [] M r M') : Ev X 191 8 [fx_f 71, fx_f 0, fx_f 56, .inl (x3)] [] M r M' := by
  refine Ev.run 2 fd_e191 (i' := 10) (ls' := [fx_f 71, fx_f 0, fx_f 56, .inl (x3)]) (st' := [.inl (x3), fx_f 71]) (M1 := M) rfl ?_
  refine Ev.xald fd_e191 rfl hX g.1 ?_
  refine Ev.run 2 fd_e191 (i' := 13) (ls' := [fx_f 71, fx_f 0, fx_f 56, .inl (x3)]) (st' := [.inl ((fx_and (X.2 (x3).toNat) 31))]) (M1 := M) rfl ?_
  refine Ev.tsO fd_e191 rfl g.2 h ?_
  exact k
theorem r191_8c0 {X : fx_Sc} {M M' : fx_M} {r : Option fx_V} {x3 : Int} (hX : X.1 < 2147483648) (g : (0 ≤ x3 ∧ x3 < (X.1 : Int))) (h : (fx_and (X.2 (x3).toNat) 31) = 0) (k : Ev X 191 14 [fx_f 71, fx_f 0, fx_f 56, .inl (x3)] [] M r M') : Ev X 191 8 [fx_f 71, fx_f 0, fx_f 56, .inl (x3)] [] M r M' := by
  refine Ev.run 2 fd_e191 (i' := 10) (ls' := [fx_f 71, fx_f 0, fx_f 56, .inl (x3)]) (st' := [.inl (x3), fx_f 71]) (M1 := M) rfl ?_
  refine Ev.xald fd_e191 rfl hX g ?_
  refine Ev.run 2 fd_e191 (i' := 13) (ls' := [fx_f 71, fx_f 0, fx_f 56, .inl (x3)]) (st' := [.inl ((fx_and (X.2 (x3).toNat) 31))]) (M1 := M) rfl ?_
  refine Ev.tsI (t := 14) fd_e191 rfl (by rw [h]; decide) (by rw [h]; decide) (by rw [h]; rfl) ?_
  exact k
theorem r191_8c1 {X : fx_Sc} {M M' : fx_M} {r : Option fx_V} {x3 : Int} (hX : X.1 < 2147483648) (g : (0 ≤ x3 ∧ x3 < (X.1 : Int))) (h : (fx_and (X.2 (x3).toNat) 31) = 1) (k : Ev X 191 41 [fx_f 71, fx_f 0, fx_f 56, .inl (x3)] [] M r M') : Ev X 191 8 [fx_f 71, fx_f 0, fx_f 56, .inl (x3)] [] M r M' := by
  refine Ev.run 2 fd_e191 (i' := 10) (ls' := [fx_f 71, fx_f 0, fx_f 56, .inl (x3)]) (st' := [.inl (x3), fx_f 71]) (M1 := M) rfl ?_
  refine Ev.xald fd_e191 rfl hX g ?_
  refine Ev.run 2 fd_e191 (i' := 13) (ls' := [fx_f 71, fx_f 0, fx_f 56, .inl (x3)]) (st' := [.inl ((fx_and (X.2 (x3).toNat) 31))]) (M1 := M) rfl ?_
  refine Ev.tsI (t := 41) fd_e191 rfl (by rw [h]; decide) (by rw [h]; decide) (by rw [h]; rfl) ?_
  exact k
theorem r191_8c2 {X : fx_Sc} {M M' : fx_M} {r : Option fx_V} {x3 : Int} (hX : X.1 < 2147483648) (g : (0 ≤ x3 ∧ x3 < (X.1 : Int))) (h : (fx_and (X.2 (x3).toNat) 31) = 2) (k : Ev X 191 78 [fx_f 71, fx_f 0, fx_f 56, .inl (x3)] [] M r M') : Ev X 191 8 [fx_f 71, fx_f 0, fx_f 56, .inl (x3)] [] M r M' := by
  refine Ev.run 2 fd_e191 (i' := 10) (ls' := [fx_f 71, fx_f 0, fx_f 56, .inl (x3)]) (st' := [.inl (x3), fx_f 71]) (M1 := M) rfl ?_
  refine Ev.xald fd_e191 rfl hX g ?_
  refine Ev.run 2 fd_e191 (i' := 13) (ls' := [fx_f 71, fx_f 0, fx_f 56, .inl (x3)]) (st' := [.inl ((fx_and (X.2 (x3).toNat) 31))]) (M1 := M) rfl ?_
  refine Ev.tsI (t := 78) fd_e191 rfl (by rw [h]; decide) (by rw [h]; decide) (by rw [h]; rfl) ?_
  exact k
theorem r191_8c3 {X : fx_Sc} {M M' : fx_M} {r : Option fx_V} {x3 : Int} (hX : X.1 < 2147483648) (g : (0 ≤ x3 ∧ x3 < (X.1 : Int))) (h : (fx_and (X.2 (x3).toNat) 31) = 3) (k : Ev X 191 105 [fx_f 71, fx_f 0, fx_f 56, .inl (x3)] [] M r M') : Ev X 191 8 [fx_f 71, fx_f 0, fx_f 56, .inl (x3)] [] M r M' := by
  refine Ev.run 2 fd_e191 (i' := 10) (ls' := [fx_f 71, fx_f 0, fx_f 56, .inl (x3)]) (st' := [.inl (x3), fx_f 71]) (M1 := M) rfl ?_
  refine Ev.xald fd_e191 rfl hX g ?_
  refine Ev.run 2 fd_e191 (i' := 13) (ls' := [fx_f 71, fx_f 0, fx_f 56, .inl (x3)]) (st' := [.inl ((fx_and (X.2 (x3).toNat) 31))]) (M1 := M) rfl ?_
  refine Ev.tsI (t := 105) fd_e191 rfl (by rw [h]; decide) (by rw [h]; decide) (by rw [h]; rfl) ?_
  exact k
theorem r191_8c4 {X : fx_Sc} {M M' : fx_M} {r : Option fx_V} {x3 : Int} (hX : X.1 < 2147483648) (g : (0 ≤ x3 ∧ x3 < (X.1 : Int))) (h : (fx_and (X.2 (x3).toNat) 31) = 4) (k : Ev X 191 122 [fx_f 71, fx_f 0, fx_f 56, .inl (x3)] [] M r M') : Ev X 191 8 [fx_f 71, fx_f 0, fx_f 56, .inl (x3)] [] M r M' := by
  refine Ev.run 2 fd_e191 (i' := 10) (ls' := [fx_f 71, fx_f 0, fx_f 56, .inl (x3)]) (st' := [.inl (x3), fx_f 71]) (M1 := M) rfl ?_
  refine Ev.xald fd_e191 rfl hX g ?_
  refine Ev.run 2 fd_e191 (i' := 13) (ls' := [fx_f 71, fx_f 0, fx_f 56, .inl (x3)]) (st' := [.inl ((fx_and (X.2 (x3).toNat) 31))]) (M1 := M) rfl ?_
  refine Ev.tsI (t := 122) fd_e191 rfl (by rw [h]; decide) (by rw [h]; decide) (by rw [h]; rfl) ?_
  exact k
theorem r191_8c5 {X : fx_Sc} {M M' : fx_M} {r : Option fx_V} {x3 : Int} (hX : X.1 < 2147483648) (g : (0 ≤ x3 ∧ x3 < (X.1 : Int))) (h : (fx_and (X.2 (x3).toNat) 31) = 5) (k : Ev X 191 149 [fx_f 71, fx_f 0, fx_f 56, .inl (x3)] [] M r M') : Ev X 191 8 [fx_f 71, fx_f 0, fx_f 56, .inl (x3)] [] M r M' := by
  refine Ev.run 2 fd_e191 (i' := 10) (ls' := [fx_f 71, fx_f 0, fx_f 56, .inl (x3)]) (st' := [.inl (x3), fx_f 71]) (M1 := M) rfl ?_
  refine Ev.xald fd_e191 rfl hX g ?_
  refine Ev.run 2 fd_e191 (i' := 13) (ls' := [fx_f 71, fx_f 0, fx_f 56, .inl (x3)]) (st' := [.inl ((fx_and (X.2 (x3).toNat) 31))]) (M1 := M) rfl ?_
  refine Ev.tsI (t := 149) fd_e191 rfl (by rw [h]; decide) (by rw [h]; decide) (by rw [h]; rfl) ?_
  exact k
theorem r191_8c6 {X : fx_Sc} {M M' : fx_M} {r : Option fx_V} {x3 : Int} (hX : X.1 < 2147483648) (g : (0 ≤ x3 ∧ x3 < (X.1 : Int))) (h : (fx_and (X.2 (x3).toNat) 31) = 6) (k : Ev X 191 176 [fx_f 71, fx_f 0, fx_f 56, .inl (x3)] [] M r M') : Ev X 191 8 [fx_f 71, fx_f 0, fx_f 56, .inl (x3)] [] M r M' := by
  refine Ev.run 2 fd_e191 (i' := 10) (ls' := [fx_f 71, fx_f 0, fx_f 56, .inl (x3)]) (st' := [.inl (x3), fx_f 71]) (M1 := M) rfl ?_
  refine Ev.xald fd_e191 rfl hX g ?_
  refine Ev.run 2 fd_e191 (i' := 13) (ls' := [fx_f 71, fx_f 0, fx_f 56, .inl (x3)]) (st' := [.inl ((fx_and (X.2 (x3).toNat) 31))]) (M1 := M) rfl ?_
  refine Ev.tsI (t := 176) fd_e191 rfl (by rw [h]; decide) (by rw [h]; decide) (by rw [h]; rfl) ?_
  exact k
theorem r191_8c7 {X : fx_Sc} {M M' : fx_M} {r : Option fx_V} {x3 : Int} (hX : X.1 < 2147483648) (g : (0 ≤ x3 ∧ x3 < (X.1 : Int))) (h : (fx_and (X.2 (x3).toNat) 31) = 7) (k : Ev X 191 203 [fx_f 71, fx_f 0, fx_f 56, .inl (x3)] [] M r M') : Ev X 191 8 [fx_f 71, fx_f 0, fx_f 56, .inl (x3)] [] M r M' := by
  refine Ev.run 2 fd_e191 (i' := 10) (ls' := [fx_f 71, fx_f 0, fx_f 56, .inl (x3)]) (st' := [.inl (x3), fx_f 71]) (M1 := M) rfl ?_
  refine Ev.xald fd_e191 rfl hX g ?_
  refine Ev.run 2 fd_e191 (i' := 13) (ls' := [fx_f 71, fx_f 0, fx_f 56, .inl (x3)]) (st' := [.inl ((fx_and (X.2 (x3).toNat) 31))]) (M1 := M) rfl ?_
  refine Ev.tsI (t := 203) fd_e191 rfl (by rw [h]; decide) (by rw [h]; decide) (by rw [h]; rfl) ?_
  exact k
theorem r191_8c8 {X : fx_Sc} {M M' : fx_M} {r : Option fx_V} {x3 : Int} (hX : X.1 < 2147483648) (g : (0 ≤ x3 ∧ x3 < (X.1 : Int))) (h : (fx_and (X.2 (x3).toNat) 31) = 8) (k : Ev X 191 220 [fx_f 71, fx_f 0, fx_f 56, .inl (x3)] [] M r M') : Ev X 191 8 [fx_f 71, fx_f 0, fx_f 56, .inl (x3)] [] M r M' := by
  refine Ev.run 2 fd_e191 (i' := 10) (ls' := [fx_f 71, fx_f 0, fx_f 56, .inl (x3)]) (st' := [.inl (x3), fx_f 71]) (M1 := M) rfl ?_
  refine Ev.xald fd_e191 rfl hX g ?_
  refine Ev.run 2 fd_e191 (i' := 13) (ls' := [fx_f 71, fx_f 0, fx_f 56, .inl (x3)]) (st' := [.inl ((fx_and (X.2 (x3).toNat) 31))]) (M1 := M) rfl ?_
  refine Ev.tsI (t := 220) fd_e191 rfl (by rw [h]; decide) (by rw [h]; decide) (by rw [h]; rfl) ?_
  exact k
theorem r191_8c9 {X : fx_Sc} {M M' : fx_M} {r : Option fx_V} {x3 : Int} (hX : X.1 < 2147483648) (g : (0 ≤ x3 ∧ x3 < (X.1 : Int))) (h : (fx_and (X.2 (x3).toNat) 31) = 9) (k : Ev X 191 257 [fx_f 71, fx_f 0, fx_f 56, .inl (x3)] [] M r M') : Ev X 191 8 [fx_f 71, fx_f 0, fx_f 56, .inl (x3)] [] M r M' := by
  refine Ev.run 2 fd_e191 (i' := 10) (ls' := [fx_f 71, fx_f 0, fx_f 56, .inl (x3)]) (st' := [.inl (x3), fx_f 71]) (M1 := M) rfl ?_
  refine Ev.xald fd_e191 rfl hX g ?_
  refine Ev.run 2 fd_e191 (i' := 13) (ls' := [fx_f 71, fx_f 0, fx_f 56, .inl (x3)]) (st' := [.inl ((fx_and (X.2 (x3).toNat) 31))]) (M1 := M) rfl ?_
  refine Ev.tsI (t := 257) fd_e191 rfl (by rw [h]; decide) (by rw [h]; decide) (by rw [h]; rfl) ?_
  exact k
theorem r191_8c10 {X : fx_Sc} {M M' : fx_M} {r : Option fx_V} {x3 : Int} (hX : X.1 < 2147483648) (g : (0 ≤ x3 ∧ x3 < (X.1 : Int))) (h : (fx_and (X.2 (x3).toNat) 31) = 10) (k : Ev X 191 284 [fx_f 71, fx_f 0, fx_f 56, .inl (x3)] [] M r M') : Ev X 191 8 [fx_f 71, fx_f 0, fx_f 56, .inl (x3)] [] M r M' := by
  refine Ev.run 2 fd_e191 (i' := 10) (ls' := [fx_f 71, fx_f 0, fx_f 56, .inl (x3)]) (st' := [.inl (x3), fx_f 71]) (M1 := M) rfl ?_
  refine Ev.xald fd_e191 rfl hX g ?_
  refine Ev.run 2 fd_e191 (i' := 13) (ls' := [fx_f 71, fx_f 0, fx_f 56, .inl (x3)]) (st' := [.inl ((fx_and (X.2 (x3).toNat) 31))]) (M1 := M) rfl ?_
  refine Ev.tsI (t := 284) fd_e191 rfl (by rw [h]; decide) (by rw [h]; decide) (by rw [h]; rfl) ?_
  exact k
theorem r191_8c11 {X : fx_Sc} {M M' : fx_M} {r : Option fx_V} {x3 : Int} (hX : X.1 < 2147483648) (g : (0 ≤ x3 ∧ x3 < (X.1 : Int))) (h : (fx_and (X.2 (x3).toNat) 31) = 11) (k : Ev X 191 311 [fx_f 71, fx_f 0, fx_f 56, .inl (x3)] [] M r M') : Ev X 191 8 [fx_f 71, fx_f 0, fx_f 56, .inl (x3)] [] M r M' := by
  refine Ev.run 2 fd_e191 (i' := 10) (ls' := [fx_f 71, fx_f 0, fx_f 56, .inl (x3)]) (st' := [.inl (x3), fx_f 71]) (M1 := M) rfl ?_
  refine Ev.xald fd_e191 rfl hX g ?_
  refine Ev.run 2 fd_e191 (i' := 13) (ls' := [fx_f 71, fx_f 0, fx_f 56, .inl (x3)]) (st' := [.inl ((fx_and (X.2 (x3).toNat) 31))]) (M1 := M) rfl ?_
  refine Ev.tsI (t := 311) fd_e191 rfl (by rw [h]; decide) (by rw [h]; decide) (by rw [h]; rfl) ?_
  exact k
theorem r191_8c12 {X : fx_Sc} {M M' : fx_M} {r : Option fx_V} {x3 : Int} (hX : X.1 < 2147483648) (g : (0 ≤ x3 ∧ x3 < (X.1 : Int))) (h : (fx_and (X.2 (x3).toNat) 31) = 12) (k : Ev X 191 338 [fx_f 71, fx_f 0, fx_f 56, .inl (x3)] [] M r M') : Ev X 191 8 [fx_f 71, fx_f 0, fx_f 56, .inl (x3)] [] M r M' := by
  refine Ev.run 2 fd_e191 (i' := 10) (ls' := [fx_f 71, fx_f 0, fx_f 56, .inl (x3)]) (st' := [.inl (x3), fx_f 71]) (M1 := M) rfl ?_
  refine Ev.xald fd_e191 rfl hX g ?_
  refine Ev.run 2 fd_e191 (i' := 13) (ls' := [fx_f 71, fx_f 0, fx_f 56, .inl (x3)]) (st' := [.inl ((fx_and (X.2 (x3).toNat) 31))]) (M1 := M) rfl ?_
  refine Ev.tsI (t := 338) fd_e191 rfl (by rw [h]; decide) (by rw [h]; decide) (by rw [h]; rfl) ?_
  exact k
theorem r191_8c13 {X : fx_Sc} {M M' : fx_M} {r : Option fx_V} {x3 : Int} (hX : X.1 < 2147483648) (g : (0 ≤ x3 ∧ x3 < (X.1 : Int))) (h : (fx_and (X.2 (x3).toNat) 31) = 13) (k : Ev X 191 365 [fx_f 71, fx_f 0, fx_f 56, .inl (x3)] [] M r M') : Ev X 191 8 [fx_f 71, fx_f 0, fx_f 56, .inl (x3)] [] M r M' := by
  refine Ev.run 2 fd_e191 (i' := 10) (ls' := [fx_f 71, fx_f 0, fx_f 56, .inl (x3)]) (st' := [.inl (x3), fx_f 71]) (M1 := M) rfl ?_
  refine Ev.xald fd_e191 rfl hX g ?_
  refine Ev.run 2 fd_e191 (i' := 13) (ls' := [fx_f 71, fx_f 0, fx_f 56, .inl (x3)]) (st' := [.inl ((fx_and (X.2 (x3).toNat) 31))]) (M1 := M) rfl ?_
  refine Ev.tsI (t := 365) fd_e191 rfl (by rw [h]; decide) (by rw [h]; decide) (by rw [h]; rfl) ?_
  exact k
theorem r191_8c14 {X : fx_Sc} {M M' : fx_M} {r : Option fx_V} {x3 : Int} (hX : X.1 < 2147483648) (g : (0 ≤ x3 ∧ x3 < (X.1 : Int))) (h : (fx_and (X.2 (x3).toNat) 31) = 14) (k : Ev X 191 382 [fx_f 71, fx_f 0, fx_f 56, .inl (x3)] [] M r M') : Ev X 191 8 [fx_f 71, fx_f 0, fx_f 56, .inl (x3)] [] M r M' := by
  refine Ev.run 2 fd_e191 (i' := 10) (ls' := [fx_f 71, fx_f 0, fx_f 56, .inl (x3)]) (st' := [.inl (x3), fx_f 71]) (M1 := M) rfl ?_
  refine Ev.xald fd_e191 rfl hX g ?_
  refine Ev.run 2 fd_e191 (i' := 13) (ls' := [fx_f 71, fx_f 0, fx_f 56, .inl (x3)]) (st' := [.inl ((fx_and (X.2 (x3).toNat) 31))]) (M1 := M) rfl ?_
  refine Ev.tsI (t := 382) fd_e191 rfl (by rw [h]; decide) (by rw [h]; decide) (by rw [h]; rfl) ?_
  exact k
theorem r191_8c15 {X : fx_Sc} {M M' : fx_M} {r : Option fx_V} {x3 : Int} (hX : X.1 < 2147483648) (g : (0 ≤ x3 ∧ x3 < (X.1 : Int))) (h : (fx_and (X.2 (x3).toNat) 31) = 15) (k : Ev X 191 409 [fx_f 71, fx_f 0, fx_f 56, .inl (x3)] [] M r M') : Ev X 191 8 [fx_f 71, fx_f 0, fx_f 56, .inl (x3)] [] M r M' := by
  refine Ev.run 2 fd_e191 (i' := 10) (ls' := [fx_f 71, fx_f 0, fx_f 56, .inl (x3)]) (st' := [.inl (x3), fx_f 71]) (M1 := M) rfl ?_
  refine Ev.xald fd_e191 rfl hX g ?_
  refine Ev.run 2 fd_e191 (i' := 13) (ls' := [fx_f 71, fx_f 0, fx_f 56, .inl (x3)]) (st' := [.inl ((fx_and (X.2 (x3).toNat) 31))]) (M1 := M) rfl ?_
  refine Ev.tsI (t := 409) fd_e191 rfl (by rw [h]; decide) (by rw [h]; decide) (by rw [h]; rfl) ?_
  exact k
theorem r191_8c16 {X : fx_Sc} {M M' : fx_M} {r : Option fx_V} {x3 : Int} (hX : X.1 < 2147483648) (g : (0 ≤ x3 ∧ x3 < (X.1 : Int))) (h : (fx_and (X.2 (x3).toNat) 31) = 16) (k : Ev X 191 426 [fx_f 71, fx_f 0, fx_f 56, .inl (x3)] [] M r M') : Ev X 191 8 [fx_f 71, fx_f 0, fx_f 56, .inl (x3)] [] M r M' := by
  refine Ev.run 2 fd_e191 (i' := 10) (ls' := [fx_f 71, fx_f 0, fx_f 56, .inl (x3)]) (st' := [.inl (x3), fx_f 71]) (M1 := M) rfl ?_
  refine Ev.xald fd_e191 rfl hX g ?_
  refine Ev.run 2 fd_e191 (i' := 13) (ls' := [fx_f 71, fx_f 0, fx_f 56, .inl (x3)]) (st' := [.inl ((fx_and (X.2 (x3).toNat) 31))]) (M1 := M) rfl ?_
  refine Ev.tsI (t := 426) fd_e191 rfl (by rw [h]; decide) (by rw [h]; decide) (by rw [h]; rfl) ?_
  exact k
theorem r191_8c17 {X : fx_Sc} {M M' : fx_M} {r : Option fx_V} {x3 : Int} (hX : X.1 < 2147483648) (g : (0 ≤ x3 ∧ x3 < (X.1 : Int))) (h : (fx_and (X.2 (x3).toNat) 31) = 17) (k : Ev X 191 463 [fx_f 71, fx_f 0, fx_f 56, .inl (x3)] [] M r M') : Ev X 191 8 [fx_f 71, fx_f 0, fx_f 56, .inl (x3)] [] M r M' := by
  refine Ev.run 2 fd_e191 (i' := 10) (ls' := [fx_f 71, fx_f 0, fx_f 56, .inl (x3)]) (st' := [.inl (x3), fx_f 71]) (M1 := M) rfl ?_
  refine Ev.xald fd_e191 rfl hX g ?_
  refine Ev.run 2 fd_e191 (i' := 13) (ls' := [fx_f 71, fx_f 0, fx_f 56, .inl (x3)]) (st' := [.inl ((fx_and (X.2 (x3).toNat) 31))]) (M1 := M) rfl ?_
  refine Ev.tsI (t := 463) fd_e191 rfl (by rw [h]; decide) (by rw [h]; decide) (by rw [h]; rfl) ?_
  exact k
theorem r191_8c18 {X : fx_Sc} {M M' : fx_M} {r : Option fx_V} {x3 : Int} (hX : X.1 < 2147483648) (g : (0 ≤ x3 ∧ x3 < (X.1 : Int))) (h : (fx_and (X.2 (x3).toNat) 31) = 18) (k : Ev X 191 504 [fx_f 71, fx_f 0, fx_f 56, .inl (x3)] [] M r M') : Ev X 191 8 [fx_f 71, fx_f 0, fx_f 56, .inl (x3)] [] M r M' := by
  refine Ev.run 2 fd_e191 (i' := 10) (ls' := [fx_f 71, fx_f 0, fx_f 56, .inl (x3)]) (st' := [.inl (x3), fx_f 71]) (M1 := M) rfl ?_
  refine Ev.xald fd_e191 rfl hX g ?_
  refine Ev.run 2 fd_e191 (i' := 13) (ls' := [fx_f 71, fx_f 0, fx_f 56, .inl (x3)]) (st' := [.inl ((fx_and (X.2 (x3).toNat) 31))]) (M1 := M) rfl ?_
  refine Ev.tsI (t := 504) fd_e191 rfl (by rw [h]; decide) (by rw [h]; decide) (by rw [h]; rfl) ?_
  exact k
theorem r191_8c19 {X : fx_Sc} {M M' : fx_M} {r : Option fx_V} {x3 : Int} (hX : X.1 < 2147483648) (g : (0 ≤ x3 ∧ x3 < (X.1 : Int))) (h : (fx_and (X.2 (x3).toNat) 31) = 19) (k : Ev X 191 511 [fx_f 71, fx_f 0, fx_f 56, .inl (x3)] [] M r M') : Ev X 191 8 [fx_f 71, fx_f 0, fx_f 56, .inl (x3)] [] M r M' := by
  refine Ev.run 2 fd_e191 (i' := 10) (ls' := [fx_f 71, fx_f 0, fx_f 56, .inl (x3)]) (st' := [.inl (x3), fx_f 71]) (M1 := M) rfl ?_
  refine Ev.xald fd_e191 rfl hX g ?_
  refine Ev.run 2 fd_e191 (i' := 13) (ls' := [fx_f 71, fx_f 0, fx_f 56, .inl (x3)]) (st' := [.inl ((fx_and (X.2 (x3).toNat) 31))]) (M1 := M) rfl ?_
  refine Ev.tsI (t := 511) fd_e191 rfl (by rw [h]; decide) (by rw [h]; decide) (by rw [h]; rfl) ?_
  exact k
theorem r191_8c20 {X : fx_Sc} {M M' : fx_M} {r : Option fx_V} {x3 : Int} (hX : X.1 < 2147483648) (g : (0 ≤ x3 ∧ x3 < (X.1 : Int))) (h : (fx_and (X.2 (x3).toNat) 31) = 20) (k : Ev X 191 518 [fx_f 71, fx_f 0, fx_f 56, .inl (x3)] [] M r M') : Ev X 191 8 [fx_f 71, fx_f 0, fx_f 56, .inl (x3)] [] M r M' := by
  refine Ev.run 2 fd_e191 (i' := 10) (ls' := [fx_f 71, fx_f 0, fx_f 56, .inl (x3)]) (st' := [.inl (x3), fx_f 71]) (M1 := M) rfl ?_
  refine Ev.xald fd_e191 rfl hX g ?_
  refine Ev.run 2 fd_e191 (i' := 13) (ls' := [fx_f 71, fx_f 0, fx_f 56, .inl (x3)]) (st' := [.inl ((fx_and (X.2 (x3).toNat) 31))]) (M1 := M) rfl ?_
  refine Ev.tsI (t := 518) fd_e191 rfl (by rw [h]; decide) (by rw [h]; decide) (by rw [h]; rfl) ?_
  exact k
theorem r191_8c21 {X : fx_Sc} {M M' : fx_M} {r : Option fx_V} {x3 : Int} (hX : X.1 < 2147483648) (g : (0 ≤ x3 ∧ x3 < (X.1 : Int))) (h : (fx_and (X.2 (x3).toNat) 31) = 21) (k : Ev X 191 525 [fx_f 71, fx_f 0, fx_f 56, .inl (x3)] [] M r M') : Ev X 191 8 [fx_f 71, fx_f 0, fx_f 56, .inl (x3)] [] M r M' := by
  refine Ev.run 2 fd_e191 (i' := 10) (ls' := [fx_f 71, fx_f 0, fx_f 56, .inl (x3)]) (st' := [.inl (x3), fx_f 71]) (M1 := M) rfl ?_
  refine Ev.xald fd_e191 rfl hX g ?_
  refine Ev.run 2 fd_e191 (i' := 13) (ls' := [fx_f 71, fx_f 0, fx_f 56, .inl (x3)]) (st' := [.inl ((fx_and (X.2 (x3).toNat) 31))]) (M1 := M) rfl ?_
  refine Ev.tsI (t := 525) fd_e191 rfl (by rw [h]; decide) (by rw [h]; decide) (by rw [h]; rfl) ?_
  exact k
theorem r191_8c22 {X : fx_Sc} {M M' : fx_M} {r : Option fx_V} {x3 : Int} (hX : X.1 < 2147483648) (g : (0 ≤ x3 ∧ x3 < (X.1 : Int))) (h : (fx_and (X.2 (x3).toNat) 31) = 22) (k : Ev X 191 542 [fx_f 71, fx_f 0, fx_f 56, .inl (x3)] [] M r M') : Ev X 191 8 [fx_f 71, fx_f 0, fx_f 56, .inl (x3)] [] M r M' := by
  refine Ev.run 2 fd_e191 (i' := 10) (ls' := [fx_f 71, fx_f 0, fx_f 56, .inl (x3)]) (st' := [.inl (x3), fx_f 71]) (M1 := M) rfl ?_
  refine Ev.xald fd_e191 rfl hX g ?_
  refine Ev.run 2 fd_e191 (i' := 13) (ls' := [fx_f 71, fx_f 0, fx_f 56, .inl (x3)]) (st' := [.inl ((fx_and (X.2 (x3).toNat) 31))]) (M1 := M) rfl ?_
  refine Ev.tsI (t := 542) fd_e191 rfl (by rw [h]; decide) (by rw [h]; decide) (by rw [h]; rfl) ?_
  exact k
theorem r191_14 {X : fx_Sc} {M M' : fx_M} {r : Option fx_V} {x3 z : Int} {M1 : fx_M} (hX : X.1 < 2147483648) (g : (0 ≤ (x3 + 1) ∧ (x3 + 1) < (X.1 : Int)) ∧ (0 ≤ (x3 + 2) ∧ (x3 + 2) < (X.1 : Int))) (hc : Ev X 0 0 [fx_f 0, .inl ((X.2 ((x3 + 1)).toNat)), .inl ((X.2 ((x3 + 2)).toNat))] [] M (some (.inl z)) M1) (k : Ev X 191 26 [fx_f 71, fx_f 0, fx_f 56, .inl (x3)] [.inl (z)] M1 r M') : Ev X 191 14 [fx_f 71, fx_f 0, fx_f 56, .inl (x3)] [] M r M' := by
  refine Ev.run 5 fd_e191 (i' := 19) (ls' := [fx_f 71, fx_f 0, fx_f 56, .inl (x3)]) (st' := [.inl ((x3 + 1)), fx_f 71, fx_f 0]) (M1 := M) rfl ?_
  refine Ev.xald fd_e191 rfl hX g.1 ?_
  refine Ev.run 4 fd_e191 (i' := 24) (ls' := [fx_f 71, fx_f 0, fx_f 56, .inl (x3)]) (st' := [.inl ((x3 + 2)), fx_f 71, .inl ((X.2 ((x3 + 1)).toNat)), fx_f 0]) (M1 := M) rfl ?_
  refine Ev.xald fd_e191 rfl hX g.2 ?_
  refine Ev.callV (vs := [fx_f 0, .inl ((X.2 ((x3 + 1)).toNat)), .inl ((X.2 ((x3 + 2)).toNat))]) (rest := []) (r1 := (some (.inl z))) fd_e191 rfl rfl rfl (Nat.le_of_ble_eq_true rfl) (Nat.le_of_ble_eq_true rfl) rfl hc ?_
  exact k
theorem r191_26 {X : fx_Sc} {M M' : fx_M} {r : Option fx_V} {x3 s0 z : Int} {M1 : fx_M} (hX : X.1 < 2147483648) (g : (0 ≤ (x3 + 1) ∧ (x3 + 1) < (X.1 : Int)) ∧ (0 ≤ (x3 + 2) ∧ (x3 + 2) < (X.1 : Int))) (hc : Ev X 137 0 [fx_f 56, .inl ((X.2 ((x3 + 1)).toNat)), .inl ((X.2 ((x3 + 2)).toNat)), fx_u] [] M (some (.inl z)) M1) (k : Ev X 191 38 [fx_f 71, fx_f 0, fx_f 56, .inl (x3)] [.inl (z), .inl (s0)] M1 r M') : Ev X 191 26 [fx_f 71, fx_f 0, fx_f 56, .inl (x3)] [.inl (s0)] M r M' := by
  refine Ev.run 5 fd_e191 (i' := 31) (ls' := [fx_f 71, fx_f 0, fx_f 56, .inl (x3)]) (st' := [.inl ((x3 + 1)), fx_f 71, fx_f 56, .inl (s0)]) (M1 := M) rfl ?_
  refine Ev.xald fd_e191 rfl hX g.1 ?_
  refine Ev.run 4 fd_e191 (i' := 36) (ls' := [fx_f 71, fx_f 0, fx_f 56, .inl (x3)]) (st' := [.inl ((x3 + 2)), fx_f 71, .inl ((X.2 ((x3 + 1)).toNat)), fx_f 56, .inl (s0)]) (M1 := M) rfl ?_
  refine Ev.xald fd_e191 rfl hX g.2 ?_
  refine Ev.callV (vs := [fx_f 56, .inl ((X.2 ((x3 + 1)).toNat)), .inl ((X.2 ((x3 + 2)).toNat))]) (rest := [.inl (s0)]) (r1 := (some (.inl z))) fd_e191 rfl rfl rfl (Nat.le_of_ble_eq_true rfl) (Nat.le_of_ble_eq_true rfl) rfl hc ?_
  exact k
theorem r191_38T {X : fx_Sc} {M M' : fx_M} {r : Option fx_V} {x3 s0 s1 : Int} (g : (-2147483648 ≤ s0 ∧ s0 < 2147483648) ∧ (-2147483648 ≤ s1 ∧ s1 < 2147483648)) (h : s0 = s1) (k : Ev X 191 559 [fx_f 71, fx_f 0, fx_f 56, .inl (x3)] [] M r M') : Ev X 191 38 [fx_f 71, fx_f 0, fx_f 56, .inl (x3)] [.inl (s1), .inl (s0)] M r M' := by
  refine Ev.icT fd_e191 rfl g.1 g.2 (decide_eq_true h) ?_
  exact k
theorem r191_38F {X : fx_Sc} {M M' : fx_M} {r : Option fx_V} {x3 s0 s1 : Int} (g : (-2147483648 ≤ s0 ∧ s0 < 2147483648) ∧ (-2147483648 ≤ s1 ∧ s1 < 2147483648)) (h : s0 ≠ s1) (k : Ev X 191 39 [fx_f 71, fx_f 0, fx_f 56, .inl (x3)] [] M r M') : Ev X 191 38 [fx_f 71, fx_f 0, fx_f 56, .inl (x3)] [.inl (s1), .inl (s0)] M r M' := by
  refine Ev.icF fd_e191 rfl g.1 g.2 (decide_eq_false h) ?_
  exact k
theorem r191_39 {X : fx_Sc} {M : fx_M} {x3 : Int} : Ev X 191 39 [fx_f 71, fx_f 0, fx_f 56, .inl (x3)] [] M (some (.inl (0))) M := by
  refine Ev.run 1 fd_e191 (i' := 40) (ls' := [fx_f 71, fx_f 0, fx_f 56, .inl (x3)]) (st' := [.inl (0)]) (M1 := M) rfl ?_
  exact Ev.ret2 fd_e191 rfl rfl (by decide)
theorem r191_41 {X : fx_Sc} {M M' : fx_M} {r : Option fx_V} {x3 z : Int} {M1 : fx_M} (hX : X.1 < 2147483648) (g : (0 ≤ (x3 + 1) ∧ (x3 + 1) < (X.1 : Int)) ∧ (0 ≤ (x3 + 2) ∧ (x3 + 2) < (X.1 : Int)) ∧ (0 ≤ (x3 + 3) ∧ (x3 + 3) < (X.1 : Int))) (hc : Ev X 8 0 [fx_f 0, .inl ((X.2 ((x3 + 1)).toNat)), .inl ((X.2 ((x3 + 2)).toNat)), .inl ((X.2 ((x3 + 3)).toNat))] [] M (some (.inl z)) M1) (k : Ev X 191 58 [fx_f 71, fx_f 0, fx_f 56, .inl (x3)] [.inl (z)] M1 r M') : Ev X 191 41 [fx_f 71, fx_f 0, fx_f 56, .inl (x3)] [] M r M' := by
  refine Ev.run 5 fd_e191 (i' := 46) (ls' := [fx_f 71, fx_f 0, fx_f 56, .inl (x3)]) (st' := [.inl ((x3 + 1)), fx_f 71, fx_f 0]) (M1 := M) rfl ?_
  refine Ev.xald fd_e191 rfl hX g.1 ?_
  refine Ev.run 4 fd_e191 (i' := 51) (ls' := [fx_f 71, fx_f 0, fx_f 56, .inl (x3)]) (st' := [.inl ((x3 + 2)), fx_f 71, .inl ((X.2 ((x3 + 1)).toNat)), fx_f 0]) (M1 := M) rfl ?_
  refine Ev.xald fd_e191 rfl hX g.2.1 ?_
  refine Ev.run 4 fd_e191 (i' := 56) (ls' := [fx_f 71, fx_f 0, fx_f 56, .inl (x3)]) (st' := [.inl ((x3 + 3)), fx_f 71, .inl ((X.2 ((x3 + 2)).toNat)), .inl ((X.2 ((x3 + 1)).toNat)), fx_f 0]) (M1 := M) rfl ?_
  refine Ev.xald fd_e191 rfl hX g.2.2 ?_
  refine Ev.callV (vs := [fx_f 0, .inl ((X.2 ((x3 + 1)).toNat)), .inl ((X.2 ((x3 + 2)).toNat)), .inl ((X.2 ((x3 + 3)).toNat))]) (rest := []) (r1 := (some (.inl z))) fd_e191 rfl rfl rfl (Nat.le_of_ble_eq_true rfl) (Nat.le_of_ble_eq_true rfl) rfl hc ?_
  exact k
theorem r191_58 {X : fx_Sc} {M M' : fx_M} {r : Option fx_V} {x3 s0 z : Int} {M1 : fx_M} (hX : X.1 < 2147483648) (g : (0 ≤ (x3 + 1) ∧ (x3 + 1) < (X.1 : Int)) ∧ (0 ≤ (x3 + 2) ∧ (x3 + 2) < (X.1 : Int)) ∧ (0 ≤ (x3 + 3) ∧ (x3 + 3) < (X.1 : Int))) (hc : Ev X 114 0 [fx_f 56, .inl ((X.2 ((x3 + 1)).toNat)), .inl ((X.2 ((x3 + 2)).toNat)), .inl ((X.2 ((x3 + 3)).toNat))] [] M (some (.inl z)) M1) (k : Ev X 191 75 [fx_f 71, fx_f 0, fx_f 56, .inl (x3)] [.inl (z), .inl (s0)] M1 r M') : Ev X 191 58 [fx_f 71, fx_f 0, fx_f 56, .inl (x3)] [.inl (s0)] M r M' := by
  refine Ev.run 5 fd_e191 (i' := 63) (ls' := [fx_f 71, fx_f 0, fx_f 56, .inl (x3)]) (st' := [.inl ((x3 + 1)), fx_f 71, fx_f 56, .inl (s0)]) (M1 := M) rfl ?_
  refine Ev.xald fd_e191 rfl hX g.1 ?_
  refine Ev.run 4 fd_e191 (i' := 68) (ls' := [fx_f 71, fx_f 0, fx_f 56, .inl (x3)]) (st' := [.inl ((x3 + 2)), fx_f 71, .inl ((X.2 ((x3 + 1)).toNat)), fx_f 56, .inl (s0)]) (M1 := M) rfl ?_
  refine Ev.xald fd_e191 rfl hX g.2.1 ?_
  refine Ev.run 4 fd_e191 (i' := 73) (ls' := [fx_f 71, fx_f 0, fx_f 56, .inl (x3)]) (st' := [.inl ((x3 + 3)), fx_f 71, .inl ((X.2 ((x3 + 2)).toNat)), .inl ((X.2 ((x3 + 1)).toNat)), fx_f 56, .inl (s0)]) (M1 := M) rfl ?_
  refine Ev.xald fd_e191 rfl hX g.2.2 ?_
  refine Ev.callV (vs := [fx_f 56, .inl ((X.2 ((x3 + 1)).toNat)), .inl ((X.2 ((x3 + 2)).toNat)), .inl ((X.2 ((x3 + 3)).toNat))]) (rest := [.inl (s0)]) (r1 := (some (.inl z))) fd_e191 rfl rfl rfl (Nat.le_of_ble_eq_true rfl) (Nat.le_of_ble_eq_true rfl) rfl hc ?_
  exact k
theorem r191_75T {X : fx_Sc} {M M' : fx_M} {r : Option fx_V} {x3 s0 s1 : Int} (g : (-2147483648 ≤ s0 ∧ s0 < 2147483648) ∧ (-2147483648 ≤ s1 ∧ s1 < 2147483648)) (h : s0 = s1) (k : Ev X 191 559 [fx_f 71, fx_f 0, fx_f 56, .inl (x3)] [] M r M') : Ev X 191 75 [fx_f 71, fx_f 0, fx_f 56, .inl (x3)] [.inl (s1), .inl (s0)] M r M' := by
  refine Ev.icT fd_e191 rfl g.1 g.2 (decide_eq_true h) ?_
  exact k
theorem r191_75F {X : fx_Sc} {M M' : fx_M} {r : Option fx_V} {x3 s0 s1 : Int} (g : (-2147483648 ≤ s0 ∧ s0 < 2147483648) ∧ (-2147483648 ≤ s1 ∧ s1 < 2147483648)) (h : s0 ≠ s1) (k : Ev X 191 76 [fx_f 71, fx_f 0, fx_f 56, .inl (x3)] [] M r M') : Ev X 191 75 [fx_f 71, fx_f 0, fx_f 56, .inl (x3)] [.inl (s1), .inl (s0)] M r M' := by
  refine Ev.icF fd_e191 rfl g.1 g.2 (decide_eq_false h) ?_
  exact k
theorem r191_76 {X : fx_Sc} {M : fx_M} {x3 : Int} : Ev X 191 76 [fx_f 71, fx_f 0, fx_f 56, .inl (x3)] [] M (some (.inl (0))) M := by
  refine Ev.run 1 fd_e191 (i' := 77) (ls' := [fx_f 71, fx_f 0, fx_f 56, .inl (x3)]) (st' := [.inl (0)]) (M1 := M) rfl ?_
  exact Ev.ret2 fd_e191 rfl rfl (by decide)
theorem r191_78 {X : fx_Sc} {M M' : fx_M} {r : Option fx_V} {x3 z : Int} {M1 : fx_M} (hX : X.1 < 2147483648) (g : (0 ≤ (x3 + 1) ∧ (x3 + 1) < (X.1 : Int)) ∧ (0 ≤ (x3 + 2) ∧ (x3 + 2) < (X.1 : Int))) (hc : Ev X 9 0 [fx_f 0, .inl ((X.2 ((x3 + 1)).toNat)), .inl ((X.2 ((x3 + 2)).toNat)), fx_u] [] M (some (.inl z)) M1) (k : Ev X 191 90 [fx_f 71, fx_f 0, fx_f 56, .inl (x3)] [.inl (z)] M1 r M') : Ev X 191 78 [fx_f 71, fx_f 0, fx_f 56, .inl (x3)] [] M r M' := by
  refine Ev.run 5 fd_e191 (i' := 83) (ls' := [fx_f 71, fx_f 0, fx_f 56, .inl (x3)]) (st' := [.inl ((x3 + 1)), fx_f 71, fx_f 0]) (M1 := M) rfl ?_
  refine Ev.xald fd_e191 rfl hX g.1 ?_
  refine Ev.run 4 fd_e191 (i' := 88) (ls' := [fx_f 71, fx_f 0, fx_f 56, .inl (x3)]) (st' := [.inl ((x3 + 2)), fx_f 71, .inl ((X.2 ((x3 + 1)).toNat)), fx_f 0]) (M1 := M) rfl ?_
  refine Ev.xald fd_e191 rfl hX g.2 ?_
  refine Ev.callV (vs := [fx_f 0, .inl ((X.2 ((x3 + 1)).toNat)), .inl ((X.2 ((x3 + 2)).toNat))]) (rest := []) (r1 := (some (.inl z))) fd_e191 rfl rfl rfl (Nat.le_of_ble_eq_true rfl) (Nat.le_of_ble_eq_true rfl) rfl hc ?_
  exact k
theorem r191_90 {X : fx_Sc} {M M' : fx_M} {r : Option fx_V} {x3 s0 z : Int} {M1 : fx_M} (hX : X.1 < 2147483648) (g : (0 ≤ (x3 + 1) ∧ (x3 + 1) < (X.1 : Int)) ∧ (0 ≤ (x3 + 2) ∧ (x3 + 2) < (X.1 : Int))) (hc : Ev X 122 0 [fx_f 56, .inl ((X.2 ((x3 + 1)).toNat)), .inl ((X.2 ((x3 + 2)).toNat)), fx_u] [] M (some (.inl z)) M1) (k : Ev X 191 102 [fx_f 71, fx_f 0, fx_f 56, .inl (x3)] [.inl (z), .inl (s0)] M1 r M') : Ev X 191 90 [fx_f 71, fx_f 0, fx_f 56, .inl (x3)] [.inl (s0)] M r M' := by
  refine Ev.run 5 fd_e191 (i' := 95) (ls' := [fx_f 71, fx_f 0, fx_f 56, .inl (x3)]) (st' := [.inl ((x3 + 1)), fx_f 71, fx_f 56, .inl (s0)]) (M1 := M) rfl ?_
  refine Ev.xald fd_e191 rfl hX g.1 ?_
  refine Ev.run 4 fd_e191 (i' := 100) (ls' := [fx_f 71, fx_f 0, fx_f 56, .inl (x3)]) (st' := [.inl ((x3 + 2)), fx_f 71, .inl ((X.2 ((x3 + 1)).toNat)), fx_f 56, .inl (s0)]) (M1 := M) rfl ?_
  refine Ev.xald fd_e191 rfl hX g.2 ?_
  refine Ev.callV (vs := [fx_f 56, .inl ((X.2 ((x3 + 1)).toNat)), .inl ((X.2 ((x3 + 2)).toNat))]) (rest := [.inl (s0)]) (r1 := (some (.inl z))) fd_e191 rfl rfl rfl (Nat.le_of_ble_eq_true rfl) (Nat.le_of_ble_eq_true rfl) rfl hc ?_
  exact k
theorem r191_102T {X : fx_Sc} {M M' : fx_M} {r : Option fx_V} {x3 s0 s1 : Int} (g : (-2147483648 ≤ s0 ∧ s0 < 2147483648) ∧ (-2147483648 ≤ s1 ∧ s1 < 2147483648)) (h : s0 = s1) (k : Ev X 191 559 [fx_f 71, fx_f 0, fx_f 56, .inl (x3)] [] M r M') : Ev X 191 102 [fx_f 71, fx_f 0, fx_f 56, .inl (x3)] [.inl (s1), .inl (s0)] M r M' := by
  refine Ev.icT fd_e191 rfl g.1 g.2 (decide_eq_true h) ?_
  exact k
theorem r191_102F {X : fx_Sc} {M M' : fx_M} {r : Option fx_V} {x3 s0 s1 : Int} (g : (-2147483648 ≤ s0 ∧ s0 < 2147483648) ∧ (-2147483648 ≤ s1 ∧ s1 < 2147483648)) (h : s0 ≠ s1) (k : Ev X 191 103 [fx_f 71, fx_f 0, fx_f 56, .inl (x3)] [] M r M') : Ev X 191 102 [fx_f 71, fx_f 0, fx_f 56, .inl (x3)] [.inl (s1), .inl (s0)] M r M' := by
  refine Ev.icF fd_e191 rfl g.1 g.2 (decide_eq_false h) ?_
  exact k
theorem r191_103 {X : fx_Sc} {M : fx_M} {x3 : Int} : Ev X 191 103 [fx_f 71, fx_f 0, fx_f 56, .inl (x3)] [] M (some (.inl (0))) M := by
  refine Ev.run 1 fd_e191 (i' := 104) (ls' := [fx_f 71, fx_f 0, fx_f 56, .inl (x3)]) (st' := [.inl (0)]) (M1 := M) rfl ?_
  exact Ev.ret2 fd_e191 rfl rfl (by decide)
theorem r191_105 {X : fx_Sc} {M M' : fx_M} {r : Option fx_V} {x3 z : Int} {M1 : fx_M} (hX : X.1 < 2147483648) (g : (0 ≤ (x3 + 1) ∧ (x3 + 1) < (X.1 : Int))) (hc : Ev X 10 0 [fx_f 0, .inl ((X.2 ((x3 + 1)).toNat)), fx_u] [] M (some (.inl z)) M1) (k : Ev X 191 112 [fx_f 71, fx_f 0, fx_f 56, .inl (x3)] [.inl (z)] M1 r M') : Ev X 191 105 [fx_f 71, fx_f 0, fx_f 56, .inl (x3)] [] M r M' := by
  refine Ev.run 5 fd_e191 (i' := 110) (ls' := [fx_f 71, fx_f 0, fx_f 56, .inl (x3)]) (st' := [.inl ((x3 + 1)), fx_f 71, fx_f 0]) (M1 := M) rfl ?_
  refine Ev.xald fd_e191 rfl hX g ?_
  refine Ev.callV (vs := [fx_f 0, .inl ((X.2 ((x3 + 1)).toNat))]) (rest := []) (r1 := (some (.inl z))) fd_e191 rfl rfl rfl (Nat.le_of_ble_eq_true rfl) (Nat.le_of_ble_eq_true rfl) rfl hc ?_
  exact k
theorem r191_112 {X : fx_Sc} {M M' : fx_M} {r : Option fx_V} {x3 s0 z : Int} {M1 : fx_M} (hX : X.1 < 2147483648) (g : (0 ≤ (x3 + 1) ∧ (x3 + 1) < (X.1 : Int))) (hc : Ev X 123 0 [fx_f 56, .inl ((X.2 ((x3 + 1)).toNat)), fx_u] [] M (some (.inl z)) M1) (k : Ev X 191 119 [fx_f 71, fx_f 0, fx_f 56, .inl (x3)] [.inl (z), .inl (s0)] M1 r M') : Ev X 191 112 [fx_f 71, fx_f 0, fx_f 56, .inl (x3)] [.inl (s0)] M r M' := by
  refine Ev.run 5 fd_e191 (i' := 117) (ls' := [fx_f 71, fx_f 0, fx_f 56, .inl (x3)]) (st' := [.inl ((x3 + 1)), fx_f 71, fx_f 56, .inl (s0)]) (M1 := M) rfl ?_
  refine Ev.xald fd_e191 rfl hX g ?_
  refine Ev.callV (vs := [fx_f 56, .inl ((X.2 ((x3 + 1)).toNat))]) (rest := [.inl (s0)]) (r1 := (some (.inl z))) fd_e191 rfl rfl rfl (Nat.le_of_ble_eq_true rfl) (Nat.le_of_ble_eq_true rfl) rfl hc ?_
  exact k
theorem r191_119T {X : fx_Sc} {M M' : fx_M} {r : Option fx_V} {x3 s0 s1 : Int} (g : (-2147483648 ≤ s0 ∧ s0 < 2147483648) ∧ (-2147483648 ≤ s1 ∧ s1 < 2147483648)) (h : s0 = s1) (k : Ev X 191 559 [fx_f 71, fx_f 0, fx_f 56, .inl (x3)] [] M r M') : Ev X 191 119 [fx_f 71, fx_f 0, fx_f 56, .inl (x3)] [.inl (s1), .inl (s0)] M r M' := by
  refine Ev.icT fd_e191 rfl g.1 g.2 (decide_eq_true h) ?_
  exact k
theorem r191_119F {X : fx_Sc} {M M' : fx_M} {r : Option fx_V} {x3 s0 s1 : Int} (g : (-2147483648 ≤ s0 ∧ s0 < 2147483648) ∧ (-2147483648 ≤ s1 ∧ s1 < 2147483648)) (h : s0 ≠ s1) (k : Ev X 191 120 [fx_f 71, fx_f 0, fx_f 56, .inl (x3)] [] M r M') : Ev X 191 119 [fx_f 71, fx_f 0, fx_f 56, .inl (x3)] [.inl (s1), .inl (s0)] M r M' := by
  refine Ev.icF fd_e191 rfl g.1 g.2 (decide_eq_false h) ?_
  exact k
theorem r191_120 {X : fx_Sc} {M : fx_M} {x3 : Int} : Ev X 191 120 [fx_f 71, fx_f 0, fx_f 56, .inl (x3)] [] M (some (.inl (0))) M := by
  refine Ev.run 1 fd_e191 (i' := 121) (ls' := [fx_f 71, fx_f 0, fx_f 56, .inl (x3)]) (st' := [.inl (0)]) (M1 := M) rfl ?_
  exact Ev.ret2 fd_e191 rfl rfl (by decide)
theorem r191_122 {X : fx_Sc} {M M' : fx_M} {r : Option fx_V} {x3 z : Int} {M1 : fx_M} (hX : X.1 < 2147483648) (g : (0 ≤ (x3 + 1) ∧ (x3 + 1) < (X.1 : Int)) ∧ (0 ≤ (x3 + 2) ∧ (x3 + 2) < (X.1 : Int))) (hc : Ev X 11 0 [fx_f 0, .inl ((X.2 ((x3 + 1)).toNat)), .inl ((X.2 ((x3 + 2)).toNat))] [] M (some (.inl z)) M1) (k : Ev X 191 134 [fx_f 71, fx_f 0, fx_f 56, .inl (x3)] [.inl (z)] M1 r M') : Ev X 191 122 [fx_f 71, fx_f 0, fx_f 56, .inl (x3)] [] M r M' := by
  refine Ev.run 5 fd_e191 (i' := 127) (ls' := [fx_f 71, fx_f 0, fx_f 56, .inl (x3)]) (st' := [.inl ((x3 + 1)), fx_f 71, fx_f 0]) (M1 := M) rfl ?_
  refine Ev.xald fd_e191 rfl hX g.1 ?_
  refine Ev.run 4 fd_e191 (i' := 132) (ls' := [fx_f 71, fx_f 0, fx_f 56, .inl (x3)]) (st' := [.inl ((x3 + 2)), fx_f 71, .inl ((X.2 ((x3 + 1)).toNat)), fx_f 0]) (M1 := M) rfl ?_
  refine Ev.xald fd_e191 rfl hX g.2 ?_
  refine Ev.callV (vs := [fx_f 0, .inl ((X.2 ((x3 + 1)).toNat)), .inl ((X.2 ((x3 + 2)).toNat))]) (rest := []) (r1 := (some (.inl z))) fd_e191 rfl rfl rfl (Nat.le_of_ble_eq_true rfl) (Nat.le_of_ble_eq_true rfl) rfl hc ?_
  exact k
theorem r191_134 {X : fx_Sc} {M M' : fx_M} {r : Option fx_V} {x3 s0 z : Int} {M1 : fx_M} (hX : X.1 < 2147483648) (g : (0 ≤ (x3 + 1) ∧ (x3 + 1) < (X.1 : Int)) ∧ (0 ≤ (x3 + 2) ∧ (x3 + 2) < (X.1 : Int))) (hc : Ev X 125 0 [fx_f 56, .inl ((X.2 ((x3 + 1)).toNat)), .inl ((X.2 ((x3 + 2)).toNat))] [] M (some (.inl z)) M1) (k : Ev X 191 146 [fx_f 71, fx_f 0, fx_f 56, .inl (x3)] [.inl (z), .inl (s0)] M1 r M') : Ev X 191 134 [fx_f 71, fx_f 0, fx_f 56, .inl (x3)] [.inl (s0)] M r M' := by
  refine Ev.run 5 fd_e191 (i' := 139) (ls' := [fx_f 71, fx_f 0, fx_f 56, .inl (x3)]) (st' := [.inl ((x3 + 1)), fx_f 71, fx_f 56, .inl (s0)]) (M1 := M) rfl ?_
  refine Ev.xald fd_e191 rfl hX g.1 ?_
  refine Ev.run 4 fd_e191 (i' := 144) (ls' := [fx_f 71, fx_f 0, fx_f 56, .inl (x3)]) (st' := [.inl ((x3 + 2)), fx_f 71, .inl ((X.2 ((x3 + 1)).toNat)), fx_f 56, .inl (s0)]) (M1 := M) rfl ?_
  refine Ev.xald fd_e191 rfl hX g.2 ?_
  refine Ev.callV (vs := [fx_f 56, .inl ((X.2 ((x3 + 1)).toNat)), .inl ((X.2 ((x3 + 2)).toNat))]) (rest := [.inl (s0)]) (r1 := (some (.inl z))) fd_e191 rfl rfl rfl (Nat.le_of_ble_eq_true rfl) (Nat.le_of_ble_eq_true rfl) rfl hc ?_
  exact k
theorem r191_146T {X : fx_Sc} {M M' : fx_M} {r : Option fx_V} {x3 s0 s1 : Int} (g : (-2147483648 ≤ s0 ∧ s0 < 2147483648) ∧ (-2147483648 ≤ s1 ∧ s1 < 2147483648)) (h : s0 = s1) (k : Ev X 191 559 [fx_f 71, fx_f 0, fx_f 56, .inl (x3)] [] M r M') : Ev X 191 146 [fx_f 71, fx_f 0, fx_f 56, .inl (x3)] [.inl (s1), .inl (s0)] M r M' := by
  refine Ev.icT fd_e191 rfl g.1 g.2 (decide_eq_true h) ?_
  exact k
theorem r191_146F {X : fx_Sc} {M M' : fx_M} {r : Option fx_V} {x3 s0 s1 : Int} (g : (-2147483648 ≤ s0 ∧ s0 < 2147483648) ∧ (-2147483648 ≤ s1 ∧ s1 < 2147483648)) (h : s0 ≠ s1) (k : Ev X 191 147 [fx_f 71, fx_f 0, fx_f 56, .inl (x3)] [] M r M') : Ev X 191 146 [fx_f 71, fx_f 0, fx_f 56, .inl (x3)] [.inl (s1), .inl (s0)] M r M' := by
  refine Ev.icF fd_e191 rfl g.1 g.2 (decide_eq_false h) ?_
  exact k
theorem r191_147 {X : fx_Sc} {M : fx_M} {x3 : Int} : Ev X 191 147 [fx_f 71, fx_f 0, fx_f 56, .inl (x3)] [] M (some (.inl (0))) M := by
  refine Ev.run 1 fd_e191 (i' := 148) (ls' := [fx_f 71, fx_f 0, fx_f 56, .inl (x3)]) (st' := [.inl (0)]) (M1 := M) rfl ?_
  exact Ev.ret2 fd_e191 rfl rfl (by decide)
theorem r191_149 {X : fx_Sc} {M M' : fx_M} {r : Option fx_V} {x3 z : Int} {M1 : fx_M} (hX : X.1 < 2147483648) (g : (0 ≤ (x3 + 1) ∧ (x3 + 1) < (X.1 : Int)) ∧ (0 ≤ (x3 + 2) ∧ (x3 + 2) < (X.1 : Int))) (hc : Ev X 12 0 [fx_f 0, .inl ((X.2 ((x3 + 1)).toNat)), .inl ((X.2 ((x3 + 2)).toNat))] [] M (some (.inl z)) M1) (k : Ev X 191 161 [fx_f 71, fx_f 0, fx_f 56, .inl (x3)] [.inl (z)] M1 r M') : Ev X 191 149 [fx_f 71, fx_f 0, fx_f 56, .inl (x3)] [] M r M' := by
  refine Ev.run 5 fd_e191 (i' := 154) (ls' := [fx_f 71, fx_f 0, fx_f 56, .inl (x3)]) (st' := [.inl ((x3 + 1)), fx_f 71, fx_f 0]) (M1 := M) rfl ?_
  refine Ev.xald fd_e191 rfl hX g.1 ?_
  refine Ev.run 4 fd_e191 (i' := 159) (ls' := [fx_f 71, fx_f 0, fx_f 56, .inl (x3)]) (st' := [.inl ((x3 + 2)), fx_f 71, .inl ((X.2 ((x3 + 1)).toNat)), fx_f 0]) (M1 := M) rfl ?_
  refine Ev.xald fd_e191 rfl hX g.2 ?_
  refine Ev.callV (vs := [fx_f 0, .inl ((X.2 ((x3 + 1)).toNat)), .inl ((X.2 ((x3 + 2)).toNat))]) (rest := []) (r1 := (some (.inl z))) fd_e191 rfl rfl rfl (Nat.le_of_ble_eq_true rfl) (Nat.le_of_ble_eq_true rfl) rfl hc ?_
  exact k
theorem r191_161 {X : fx_Sc} {M M' : fx_M} {r : Option fx_V} {x3 s0 z : Int} {M1 : fx_M} (hX : X.1 < 2147483648) (g : (0 ≤ (x3 + 1) ∧ (x3 + 1) < (X.1 : Int)) ∧ (0 ≤ (x3 + 2) ∧ (x3 + 2) < (X.1 : Int))) (hc : Ev X 133 0 [fx_f 56, .inl ((X.2 ((x3 + 1)).toNat)), .inl ((X.2 ((x3 + 2)).toNat))] [] M (some (.inl z)) M1) (k : Ev X 191 173 [fx_f 71, fx_f 0, fx_f 56, .inl (x3)] [.inl (z), .inl (s0)] M1 r M') : Ev X 191 161 [fx_f 71, fx_f 0, fx_f 56, .inl (x3)] [.inl (s0)] M r M' := by
  refine Ev.run 5 fd_e191 (i' := 166) (ls' := [fx_f 71, fx_f 0, fx_f 56, .inl (x3)]) (st' := [.inl ((x3 + 1)), fx_f 71, fx_f 56, .inl (s0)]) (M1 := M) rfl ?_
  refine Ev.xald fd_e191 rfl hX g.1 ?_
  refine Ev.run 4 fd_e191 (i' := 171) (ls' := [fx_f 71, fx_f 0, fx_f 56, .inl (x3)]) (st' := [.inl ((x3 + 2)), fx_f 71, .inl ((X.2 ((x3 + 1)).toNat)), fx_f 56, .inl (s0)]) (M1 := M) rfl ?_
  refine Ev.xald fd_e191 rfl hX g.2 ?_
  refine Ev.callV (vs := [fx_f 56, .inl ((X.2 ((x3 + 1)).toNat)), .inl ((X.2 ((x3 + 2)).toNat))]) (rest := [.inl (s0)]) (r1 := (some (.inl z))) fd_e191 rfl rfl rfl (Nat.le_of_ble_eq_true rfl) (Nat.le_of_ble_eq_true rfl) rfl hc ?_
  exact k
theorem r191_173T {X : fx_Sc} {M M' : fx_M} {r : Option fx_V} {x3 s0 s1 : Int} (g : (-2147483648 ≤ s0 ∧ s0 < 2147483648) ∧ (-2147483648 ≤ s1 ∧ s1 < 2147483648)) (h : s0 = s1) (k : Ev X 191 559 [fx_f 71, fx_f 0, fx_f 56, .inl (x3)] [] M r M') : Ev X 191 173 [fx_f 71, fx_f 0, fx_f 56, .inl (x3)] [.inl (s1), .inl (s0)] M r M' := by
  refine Ev.icT fd_e191 rfl g.1 g.2 (decide_eq_true h) ?_
  exact k
theorem r191_173F {X : fx_Sc} {M M' : fx_M} {r : Option fx_V} {x3 s0 s1 : Int} (g : (-2147483648 ≤ s0 ∧ s0 < 2147483648) ∧ (-2147483648 ≤ s1 ∧ s1 < 2147483648)) (h : s0 ≠ s1) (k : Ev X 191 174 [fx_f 71, fx_f 0, fx_f 56, .inl (x3)] [] M r M') : Ev X 191 173 [fx_f 71, fx_f 0, fx_f 56, .inl (x3)] [.inl (s1), .inl (s0)] M r M' := by
  refine Ev.icF fd_e191 rfl g.1 g.2 (decide_eq_false h) ?_
  exact k
theorem r191_174 {X : fx_Sc} {M : fx_M} {x3 : Int} : Ev X 191 174 [fx_f 71, fx_f 0, fx_f 56, .inl (x3)] [] M (some (.inl (0))) M := by
  refine Ev.run 1 fd_e191 (i' := 175) (ls' := [fx_f 71, fx_f 0, fx_f 56, .inl (x3)]) (st' := [.inl (0)]) (M1 := M) rfl ?_
  exact Ev.ret2 fd_e191 rfl rfl (by decide)
theorem r191_176 {X : fx_Sc} {M M' : fx_M} {r : Option fx_V} {x3 z : Int} {M1 : fx_M} (hX : X.1 < 2147483648) (g : (0 ≤ (x3 + 1) ∧ (x3 + 1) < (X.1 : Int)) ∧ (0 ≤ (x3 + 2) ∧ (x3 + 2) < (X.1 : Int))) (hc : Ev X 14 0 [fx_f 0, .inl ((X.2 ((x3 + 1)).toNat)), .inl ((X.2 ((x3 + 2)).toNat))] [] M (some (.inl z)) M1) (k : Ev X 191 188 [fx_f 71, fx_f 0, fx_f 56, .inl (x3)] [.inl (z)] M1 r M') : Ev X 191 176 [fx_f 71, fx_f 0, fx_f 56, .inl (x3)] [] M r M' := by
  refine Ev.run 5 fd_e191 (i' := 181) (ls' := [fx_f 71, fx_f 0, fx_f 56, .inl (x3)]) (st' := [.inl ((x3 + 1)), fx_f 71, fx_f 0]) (M1 := M) rfl ?_
  refine Ev.xald fd_e191 rfl hX g.1 ?_
  refine Ev.run 4 fd_e191 (i' := 186) (ls' := [fx_f 71, fx_f 0, fx_f 56, .inl (x3)]) (st' := [.inl ((x3 + 2)), fx_f 71, .inl ((X.2 ((x3 + 1)).toNat)), fx_f 0]) (M1 := M) rfl ?_
  refine Ev.xald fd_e191 rfl hX g.2 ?_
  refine Ev.callV (vs := [fx_f 0, .inl ((X.2 ((x3 + 1)).toNat)), .inl ((X.2 ((x3 + 2)).toNat))]) (rest := []) (r1 := (some (.inl z))) fd_e191 rfl rfl rfl (Nat.le_of_ble_eq_true rfl) (Nat.le_of_ble_eq_true rfl) rfl hc ?_
  exact k
theorem r191_188 {X : fx_Sc} {M M' : fx_M} {r : Option fx_V} {x3 s0 z : Int} {M1 : fx_M} (hX : X.1 < 2147483648) (g : (0 ≤ (x3 + 1) ∧ (x3 + 1) < (X.1 : Int)) ∧ (0 ≤ (x3 + 2) ∧ (x3 + 2) < (X.1 : Int))) (hc : Ev X 134 0 [fx_f 56, .inl ((X.2 ((x3 + 1)).toNat)), .inl ((X.2 ((x3 + 2)).toNat))] [] M (some (.inl z)) M1) (k : Ev X 191 200 [fx_f 71, fx_f 0, fx_f 56, .inl (x3)] [.inl (z), .inl (s0)] M1 r M') : Ev X 191 188 [fx_f 71, fx_f 0, fx_f 56, .inl (x3)] [.inl (s0)] M r M' := by
  refine Ev.run 5 fd_e191 (i' := 193) (ls' := [fx_f 71, fx_f 0, fx_f 56, .inl (x3)]) (st' := [.inl ((x3 + 1)), fx_f 71, fx_f 56, .inl (s0)]) (M1 := M) rfl ?_
  refine Ev.xald fd_e191 rfl hX g.1 ?_
  refine Ev.run 4 fd_e191 (i' := 198) (ls' := [fx_f 71, fx_f 0, fx_f 56, .inl (x3)]) (st' := [.inl ((x3 + 2)), fx_f 71, .inl ((X.2 ((x3 + 1)).toNat)), fx_f 56, .inl (s0)]) (M1 := M) rfl ?_
  refine Ev.xald fd_e191 rfl hX g.2 ?_
  refine Ev.callV (vs := [fx_f 56, .inl ((X.2 ((x3 + 1)).toNat)), .inl ((X.2 ((x3 + 2)).toNat))]) (rest := [.inl (s0)]) (r1 := (some (.inl z))) fd_e191 rfl rfl rfl (Nat.le_of_ble_eq_true rfl) (Nat.le_of_ble_eq_true rfl) rfl hc ?_
  exact k
theorem r191_200T {X : fx_Sc} {M M' : fx_M} {r : Option fx_V} {x3 s0 s1 : Int} (g : (-2147483648 ≤ s0 ∧ s0 < 2147483648) ∧ (-2147483648 ≤ s1 ∧ s1 < 2147483648)) (h : s0 = s1) (k : Ev X 191 559 [fx_f 71, fx_f 0, fx_f 56, .inl (x3)] [] M r M') : Ev X 191 200 [fx_f 71, fx_f 0, fx_f 56, .inl (x3)] [.inl (s1), .inl (s0)] M r M' := by
  refine Ev.icT fd_e191 rfl g.1 g.2 (decide_eq_true h) ?_
  exact k
theorem r191_200F {X : fx_Sc} {M M' : fx_M} {r : Option fx_V} {x3 s0 s1 : Int} (g : (-2147483648 ≤ s0 ∧ s0 < 2147483648) ∧ (-2147483648 ≤ s1 ∧ s1 < 2147483648)) (h : s0 ≠ s1) (k : Ev X 191 201 [fx_f 71, fx_f 0, fx_f 56, .inl (x3)] [] M r M') : Ev X 191 200 [fx_f 71, fx_f 0, fx_f 56, .inl (x3)] [.inl (s1), .inl (s0)] M r M' := by
  refine Ev.icF fd_e191 rfl g.1 g.2 (decide_eq_false h) ?_
  exact k
theorem r191_201 {X : fx_Sc} {M : fx_M} {x3 : Int} : Ev X 191 201 [fx_f 71, fx_f 0, fx_f 56, .inl (x3)] [] M (some (.inl (0))) M := by
  refine Ev.run 1 fd_e191 (i' := 202) (ls' := [fx_f 71, fx_f 0, fx_f 56, .inl (x3)]) (st' := [.inl (0)]) (M1 := M) rfl ?_
  exact Ev.ret2 fd_e191 rfl rfl (by decide)
theorem r191_203 {X : fx_Sc} {M M' : fx_M} {r : Option fx_V} {x3 z : Int} {M1 : fx_M} (hX : X.1 < 2147483648) (g : (0 ≤ (x3 + 1) ∧ (x3 + 1) < (X.1 : Int))) (hc : Ev X 15 0 [fx_f 0, .inl ((X.2 ((x3 + 1)).toNat))] [] M (some (.inl z)) M1) (k : Ev X 191 210 [fx_f 71, fx_f 0, fx_f 56, .inl (x3)] [.inl (z)] M1 r M') : Ev X 191 203 [fx_f 71, fx_f 0, fx_f 56, .inl (x3)] [] M r M' := by
  refine Ev.run 5 fd_e191 (i' := 208) (ls' := [fx_f 71, fx_f 0, fx_f 56, .inl (x3)]) (st' := [.inl ((x3 + 1)), fx_f 71, fx_f 0]) (M1 := M) rfl ?_
  refine Ev.xald fd_e191 rfl hX g ?_
  refine Ev.callV (vs := [fx_f 0, .inl ((X.2 ((x3 + 1)).toNat))]) (rest := []) (r1 := (some (.inl z))) fd_e191 rfl rfl rfl (Nat.le_of_ble_eq_true rfl) (Nat.le_of_ble_eq_true rfl) rfl hc ?_
  exact k
theorem r191_210 {X : fx_Sc} {M M' : fx_M} {r : Option fx_V} {x3 s0 z : Int} {M1 : fx_M} (hX : X.1 < 2147483648) (g : (0 ≤ (x3 + 1) ∧ (x3 + 1) < (X.1 : Int))) (hc : Ev X 136 0 [fx_f 56, .inl ((X.2 ((x3 + 1)).toNat)), fx_u, fx_u, fx_u] [] M (some (.inl z)) M1) (k : Ev X 191 217 [fx_f 71, fx_f 0, fx_f 56, .inl (x3)] [.inl (z), .inl (s0)] M1 r M') : Ev X 191 210 [fx_f 71, fx_f 0, fx_f 56, .inl (x3)] [.inl (s0)] M r M' := by
  refine Ev.run 5 fd_e191 (i' := 215) (ls' := [fx_f 71, fx_f 0, fx_f 56, .inl (x3)]) (st' := [.inl ((x3 + 1)), fx_f 71, fx_f 56, .inl (s0)]) (M1 := M) rfl ?_
  refine Ev.xald fd_e191 rfl hX g ?_
  refine Ev.callV (vs := [fx_f 56, .inl ((X.2 ((x3 + 1)).toNat))]) (rest := [.inl (s0)]) (r1 := (some (.inl z))) fd_e191 rfl rfl rfl (Nat.le_of_ble_eq_true rfl) (Nat.le_of_ble_eq_true rfl) rfl hc ?_
  exact k
theorem r191_217T {X : fx_Sc} {M M' : fx_M} {r : Option fx_V} {x3 s0 s1 : Int} (g : (-2147483648 ≤ s0 ∧ s0 < 2147483648) ∧ (-2147483648 ≤ s1 ∧ s1 < 2147483648)) (h : s0 = s1) (k : Ev X 191 559 [fx_f 71, fx_f 0, fx_f 56, .inl (x3)] [] M r M') : Ev X 191 217 [fx_f 71, fx_f 0, fx_f 56, .inl (x3)] [.inl (s1), .inl (s0)] M r M' := by
  refine Ev.icT fd_e191 rfl g.1 g.2 (decide_eq_true h) ?_
  exact k
theorem r191_217F {X : fx_Sc} {M M' : fx_M} {r : Option fx_V} {x3 s0 s1 : Int} (g : (-2147483648 ≤ s0 ∧ s0 < 2147483648) ∧ (-2147483648 ≤ s1 ∧ s1 < 2147483648)) (h : s0 ≠ s1) (k : Ev X 191 218 [fx_f 71, fx_f 0, fx_f 56, .inl (x3)] [] M r M') : Ev X 191 217 [fx_f 71, fx_f 0, fx_f 56, .inl (x3)] [.inl (s1), .inl (s0)] M r M' := by
  refine Ev.icF fd_e191 rfl g.1 g.2 (decide_eq_false h) ?_
  exact k
theorem r191_218 {X : fx_Sc} {M : fx_M} {x3 : Int} : Ev X 191 218 [fx_f 71, fx_f 0, fx_f 56, .inl (x3)] [] M (some (.inl (0))) M := by
  refine Ev.run 1 fd_e191 (i' := 219) (ls' := [fx_f 71, fx_f 0, fx_f 56, .inl (x3)]) (st' := [.inl (0)]) (M1 := M) rfl ?_
  exact Ev.ret2 fd_e191 rfl rfl (by decide)
theorem r191_220 {X : fx_Sc} {M M' : fx_M} {r : Option fx_V} {x3 z : Int} {M1 : fx_M} (hX : X.1 < 2147483648) (g : (0 ≤ (x3 + 1) ∧ (x3 + 1) < (X.1 : Int)) ∧ (0 ≤ (x3 + 2) ∧ (x3 + 2) < (X.1 : Int)) ∧ (0 ≤ (x3 + 3) ∧ (x3 + 3) < (X.1 : Int))) (hc : Ev X 16 0 [fx_f 0, .inl ((X.2 ((x3 + 1)).toNat)), .inl ((X.2 ((x3 + 2)).toNat)), .inl ((X.2 ((x3 + 3)).toNat)), fx_u] [] M (some (.inl z)) M1) (k : Ev X 191 237 [fx_f 71, fx_f 0, fx_f 56, .inl (x3)] [.inl (z)] M1 r M') : Ev X 191 220 [fx_f 71, fx_f 0, fx_f 56, .inl (x3)] [] M r M' := by
  refine Ev.run 5 fd_e191 (i' := 225) (ls' := [fx_f 71, fx_f 0, fx_f 56, .inl (x3)]) (st' := [.inl ((x3 + 1)), fx_f 71, fx_f 0]) (M1 := M) rfl ?_
  refine Ev.xald fd_e191 rfl hX g.1 ?_
  refine Ev.run 4 fd_e191 (i' := 230) (ls' := [fx_f 71, fx_f 0, fx_f 56, .inl (x3)]) (st' := [.inl ((x3 + 2)), fx_f 71, .inl ((X.2 ((x3 + 1)).toNat)), fx_f 0]) (M1 := M) rfl ?_
  refine Ev.xald fd_e191 rfl hX g.2.1 ?_
  refine Ev.run 4 fd_e191 (i' := 235) (ls' := [fx_f 71, fx_f 0, fx_f 56, .inl (x3)]) (st' := [.inl ((x3 + 3)), fx_f 71, .inl ((X.2 ((x3 + 2)).toNat)), .inl ((X.2 ((x3 + 1)).toNat)), fx_f 0]) (M1 := M) rfl ?_
  refine Ev.xald fd_e191 rfl hX g.2.2 ?_
  refine Ev.callV (vs := [fx_f 0, .inl ((X.2 ((x3 + 1)).toNat)), .inl ((X.2 ((x3 + 2)).toNat)), .inl ((X.2 ((x3 + 3)).toNat))]) (rest := []) (r1 := (some (.inl z))) fd_e191 rfl rfl rfl (Nat.le_of_ble_eq_true rfl) (Nat.le_of_ble_eq_true rfl) rfl hc ?_
  exact k
theorem r191_237 {X : fx_Sc} {M M' : fx_M} {r : Option fx_V} {x3 s0 z : Int} {M1 : fx_M} (hX : X.1 < 2147483648) (g : (0 ≤ (x3 + 1) ∧ (x3 + 1) < (X.1 : Int)) ∧ (0 ≤ (x3 + 2) ∧ (x3 + 2) < (X.1 : Int)) ∧ (0 ≤ (x3 + 3) ∧ (x3 + 3) < (X.1 : Int))) (hc : Ev X 148 0 [fx_f 56, .inl ((X.2 ((x3 + 1)).toNat)), .inl ((X.2 ((x3 + 2)).toNat)), .inl ((X.2 ((x3 + 3)).toNat)), fx_u] [] M (some (.inl z)) M1) (k : Ev X 191 254 [fx_f 71, fx_f 0, fx_f 56, .inl (x3)] [.inl (z), .inl (s0)] M1 r M') : Ev X 191 237 [fx_f 71, fx_f 0, fx_f 56, .inl (x3)] [.inl (s0)] M r M' := by
  refine Ev.run 5 fd_e191 (i' := 242) (ls' := [fx_f 71, fx_f 0, fx_f 56, .inl (x3)]) (st' := [.inl ((x3 + 1)), fx_f 71, fx_f 56, .inl (s0)]) (M1 := M) rfl ?_
  refine Ev.xald fd_e191 rfl hX g.1 ?_
  refine Ev.run 4 fd_e191 (i' := 247) (ls' := [fx_f 71, fx_f 0, fx_f 56, .inl (x3)]) (st' := [.inl ((x3 + 2)), fx_f 71, .inl ((X.2 ((x3 + 1)).toNat)), fx_f 56, .inl (s0)]) (M1 := M) rfl ?_
  refine Ev.xald fd_e191 rfl hX g.2.1 ?_
  refine Ev.run 4 fd_e191 (i' := 252) (ls' := [fx_f 71, fx_f 0, fx_f 56, .inl (x3)]) (st' := [.inl ((x3 + 3)), fx_f 71, .inl ((X.2 ((x3 + 2)).toNat)), .inl ((X.2 ((x3 + 1)).toNat)), fx_f 56, .inl (s0)]) (M1 := M) rfl ?_
  refine Ev.xald fd_e191 rfl hX g.2.2 ?_
  refine Ev.callV (vs := [fx_f 56, .inl ((X.2 ((x3 + 1)).toNat)), .inl ((X.2 ((x3 + 2)).toNat)), .inl ((X.2 ((x3 + 3)).toNat))]) (rest := [.inl (s0)]) (r1 := (some (.inl z))) fd_e191 rfl rfl rfl (Nat.le_of_ble_eq_true rfl) (Nat.le_of_ble_eq_true rfl) rfl hc ?_
  exact k
theorem r191_254T {X : fx_Sc} {M M' : fx_M} {r : Option fx_V} {x3 s0 s1 : Int} (g : (-2147483648 ≤ s0 ∧ s0 < 2147483648) ∧ (-2147483648 ≤ s1 ∧ s1 < 2147483648)) (h : s0 = s1) (k : Ev X 191 559 [fx_f 71, fx_f 0, fx_f 56, .inl (x3)] [] M r M') : Ev X 191 254 [fx_f 71, fx_f 0, fx_f 56, .inl (x3)] [.inl (s1), .inl (s0)] M r M' := by
  refine Ev.icT fd_e191 rfl g.1 g.2 (decide_eq_true h) ?_
  exact k
theorem r191_254F {X : fx_Sc} {M M' : fx_M} {r : Option fx_V} {x3 s0 s1 : Int} (g : (-2147483648 ≤ s0 ∧ s0 < 2147483648) ∧ (-2147483648 ≤ s1 ∧ s1 < 2147483648)) (h : s0 ≠ s1) (k : Ev X 191 255 [fx_f 71, fx_f 0, fx_f 56, .inl (x3)] [] M r M') : Ev X 191 254 [fx_f 71, fx_f 0, fx_f 56, .inl (x3)] [.inl (s1), .inl (s0)] M r M' := by
  refine Ev.icF fd_e191 rfl g.1 g.2 (decide_eq_false h) ?_
  exact k
theorem r191_255 {X : fx_Sc} {M : fx_M} {x3 : Int} : Ev X 191 255 [fx_f 71, fx_f 0, fx_f 56, .inl (x3)] [] M (some (.inl (0))) M := by
  refine Ev.run 1 fd_e191 (i' := 256) (ls' := [fx_f 71, fx_f 0, fx_f 56, .inl (x3)]) (st' := [.inl (0)]) (M1 := M) rfl ?_
  exact Ev.ret2 fd_e191 rfl rfl (by decide)
theorem r191_257 {X : fx_Sc} {M M' : fx_M} {r : Option fx_V} {x3 z : Int} {M1 : fx_M} (hX : X.1 < 2147483648) (g : (0 ≤ (x3 + 1) ∧ (x3 + 1) < (X.1 : Int)) ∧ (0 ≤ (x3 + 2) ∧ (x3 + 2) < (X.1 : Int))) (hc : Ev X 19 0 [fx_f 0, .inl ((X.2 ((x3 + 1)).toNat)), .inl ((X.2 ((x3 + 2)).toNat))] [] M (some (.inl z)) M1) (k : Ev X 191 269 [fx_f 71, fx_f 0, fx_f 56, .inl (x3)] [.inl (z)] M1 r M') : Ev X 191 257 [fx_f 71, fx_f 0, fx_f 56, .inl (x3)] [] M r M' := by
  refine Ev.run 5 fd_e191 (i' := 262) (ls' := [fx_f 71, fx_f 0, fx_f 56, .inl (x3)]) (st' := [.inl ((x3 + 1)), fx_f 71, fx_f 0]) (M1 := M) rfl ?_
  refine Ev.xald fd_e191 rfl hX g.1 ?_
  refine Ev.run 4 fd_e191 (i' := 267) (ls' := [fx_f 71, fx_f 0, fx_f 56, .inl (x3)]) (st' := [.inl ((x3 + 2)), fx_f 71, .inl ((X.2 ((x3 + 1)).toNat)), fx_f 0]) (M1 := M) rfl ?_
  refine Ev.xald fd_e191 rfl hX g.2 ?_
  refine Ev.callV (vs := [fx_f 0, .inl ((X.2 ((x3 + 1)).toNat)), .inl ((X.2 ((x3 + 2)).toNat))]) (rest := []) (r1 := (some (.inl z))) fd_e191 rfl rfl rfl (Nat.le_of_ble_eq_true rfl) (Nat.le_of_ble_eq_true rfl) rfl hc ?_
  exact k
theorem r191_269 {X : fx_Sc} {M M' : fx_M} {r : Option fx_V} {x3 s0 z : Int} {M1 : fx_M} (hX : X.1 < 2147483648) (g : (0 ≤ (x3 + 1) ∧ (x3 + 1) < (X.1 : Int)) ∧ (0 ≤ (x3 + 2) ∧ (x3 + 2) < (X.1 : Int))) (hc : Ev X 156 0 [fx_f 56, .inl ((X.2 ((x3 + 1)).toNat)), .inl ((X.2 ((x3 + 2)).toNat))] [] M (some (.inl z)) M1) (k : Ev X 191 281 [fx_f 71, fx_f 0, fx_f 56, .inl (x3)] [.inl (z), .inl (s0)] M1 r M') : Ev X 191 269 [fx_f 71, fx_f 0, fx_f 56, .inl (x3)] [.inl (s0)] M r M' := by
  refine Ev.run 5 fd_e191 (i' := 274) (ls' := [fx_f 71, fx_f 0, fx_f 56, .inl (x3)]) (st' := [.inl ((x3 + 1)), fx_f 71, fx_f 56, .inl (s0)]) (M1 := M) rfl ?_
  refine Ev.xald fd_e191 rfl hX g.1 ?_
  refine Ev.run 4 fd_e191 (i' := 279) (ls' := [fx_f 71, fx_f 0, fx_f 56, .inl (x3)]) (st' := [.inl ((x3 + 2)), fx_f 71, .inl ((X.2 ((x3 + 1)).toNat)), fx_f 56, .inl (s0)]) (M1 := M) rfl ?_
  refine Ev.xald fd_e191 rfl hX g.2 ?_
  refine Ev.callV (vs := [fx_f 56, .inl ((X.2 ((x3 + 1)).toNat)), .inl ((X.2 ((x3 + 2)).toNat))]) (rest := [.inl (s0)]) (r1 := (some (.inl z))) fd_e191 rfl rfl rfl (Nat.le_of_ble_eq_true rfl) (Nat.le_of_ble_eq_true rfl) rfl hc ?_
  exact k
theorem r191_281T {X : fx_Sc} {M M' : fx_M} {r : Option fx_V} {x3 s0 s1 : Int} (g : (-2147483648 ≤ s0 ∧ s0 < 2147483648) ∧ (-2147483648 ≤ s1 ∧ s1 < 2147483648)) (h : s0 = s1) (k : Ev X 191 559 [fx_f 71, fx_f 0, fx_f 56, .inl (x3)] [] M r M') : Ev X 191 281 [fx_f 71, fx_f 0, fx_f 56, .inl (x3)] [.inl (s1), .inl (s0)] M r M' := by
  refine Ev.icT fd_e191 rfl g.1 g.2 (decide_eq_true h) ?_
  exact k
theorem r191_281F {X : fx_Sc} {M M' : fx_M} {r : Option fx_V} {x3 s0 s1 : Int} (g : (-2147483648 ≤ s0 ∧ s0 < 2147483648) ∧ (-2147483648 ≤ s1 ∧ s1 < 2147483648)) (h : s0 ≠ s1) (k : Ev X 191 282 [fx_f 71, fx_f 0, fx_f 56, .inl (x3)] [] M r M') : Ev X 191 281 [fx_f 71, fx_f 0, fx_f 56, .inl (x3)] [.inl (s1), .inl (s0)] M r M' := by
  refine Ev.icF fd_e191 rfl g.1 g.2 (decide_eq_false h) ?_
  exact k
theorem r191_282 {X : fx_Sc} {M : fx_M} {x3 : Int} : Ev X 191 282 [fx_f 71, fx_f 0, fx_f 56, .inl (x3)] [] M (some (.inl (0))) M := by
  refine Ev.run 1 fd_e191 (i' := 283) (ls' := [fx_f 71, fx_f 0, fx_f 56, .inl (x3)]) (st' := [.inl (0)]) (M1 := M) rfl ?_
  exact Ev.ret2 fd_e191 rfl rfl (by decide)
theorem r191_284 {X : fx_Sc} {M M' : fx_M} {r : Option fx_V} {x3 z : Int} {M1 : fx_M} (hX : X.1 < 2147483648) (g : (0 ≤ (x3 + 1) ∧ (x3 + 1) < (X.1 : Int)) ∧ (0 ≤ (x3 + 2) ∧ (x3 + 2) < (X.1 : Int))) (hc : Ev X 20 0 [fx_f 0, .inl ((X.2 ((x3 + 1)).toNat)), .inl ((X.2 ((x3 + 2)).toNat))] [] M (some (.inl z)) M1) (k : Ev X 191 296 [fx_f 71, fx_f 0, fx_f 56, .inl (x3)] [.inl (z)] M1 r M') : Ev X 191 284 [fx_f 71, fx_f 0, fx_f 56, .inl (x3)] [] M r M' := by
  refine Ev.run 5 fd_e191 (i' := 289) (ls' := [fx_f 71, fx_f 0, fx_f 56, .inl (x3)]) (st' := [.inl ((x3 + 1)), fx_f 71, fx_f 0]) (M1 := M) rfl ?_
  refine Ev.xald fd_e191 rfl hX g.1 ?_
  refine Ev.run 4 fd_e191 (i' := 294) (ls' := [fx_f 71, fx_f 0, fx_f 56, .inl (x3)]) (st' := [.inl ((x3 + 2)), fx_f 71, .inl ((X.2 ((x3 + 1)).toNat)), fx_f 0]) (M1 := M) rfl ?_
  refine Ev.xald fd_e191 rfl hX g.2 ?_
  refine Ev.callV (vs := [fx_f 0, .inl ((X.2 ((x3 + 1)).toNat)), .inl ((X.2 ((x3 + 2)).toNat))]) (rest := []) (r1 := (some (.inl z))) fd_e191 rfl rfl rfl (Nat.le_of_ble_eq_true rfl) (Nat.le_of_ble_eq_true rfl) rfl hc ?_
  exact k
theorem r191_296 {X : fx_Sc} {M M' : fx_M} {r : Option fx_V} {x3 s0 z : Int} {M1 : fx_M} (hX : X.1 < 2147483648) (g : (0 ≤ (x3 + 1) ∧ (x3 + 1) < (X.1 : Int)) ∧ (0 ≤ (x3 + 2) ∧ (x3 + 2) < (X.1 : Int))) (hc : Ev X 161 0 [fx_f 56, .inl ((X.2 ((x3 + 1)).toNat)), .inl ((X.2 ((x3 + 2)).toNat)), fx_u] [] M (some (.inl z)) M1) (k : Ev X 191 308 [fx_f 71, fx_f 0, fx_f 56, .inl (x3)] [.inl (z), .inl (s0)] M1 r M') : Ev X 191 296 [fx_f 71, fx_f 0, fx_f 56, .inl (x3)] [.inl (s0)] M r M' := by
  refine Ev.run 5 fd_e191 (i' := 301) (ls' := [fx_f 71, fx_f 0, fx_f 56, .inl (x3)]) (st' := [.inl ((x3 + 1)), fx_f 71, fx_f 56, .inl (s0)]) (M1 := M) rfl ?_
  refine Ev.xald fd_e191 rfl hX g.1 ?_
  refine Ev.run 4 fd_e191 (i' := 306) (ls' := [fx_f 71, fx_f 0, fx_f 56, .inl (x3)]) (st' := [.inl ((x3 + 2)), fx_f 71, .inl ((X.2 ((x3 + 1)).toNat)), fx_f 56, .inl (s0)]) (M1 := M) rfl ?_
  refine Ev.xald fd_e191 rfl hX g.2 ?_
  refine Ev.callV (vs := [fx_f 56, .inl ((X.2 ((x3 + 1)).toNat)), .inl ((X.2 ((x3 + 2)).toNat))]) (rest := [.inl (s0)]) (r1 := (some (.inl z))) fd_e191 rfl rfl rfl (Nat.le_of_ble_eq_true rfl) (Nat.le_of_ble_eq_true rfl) rfl hc ?_
  exact k
set_option maxRecDepth 8000 in
theorem r191_308T {X : fx_Sc} {M M' : fx_M} {r : Option fx_V} {x3 s0 s1 : Int} (g : (-2147483648 ≤ s0 ∧ s0 < 2147483648) ∧ (-2147483648 ≤ s1 ∧ s1 < 2147483648)) (h : s0 = s1) (k : Ev X 191 559 [fx_f 71, fx_f 0, fx_f 56, .inl (x3)] [] M r M') : Ev X 191 308 [fx_f 71, fx_f 0, fx_f 56, .inl (x3)] [.inl (s1), .inl (s0)] M r M' := by
  refine Ev.icT fd_e191 rfl g.1 g.2 (decide_eq_true h) ?_
  exact k
set_option maxRecDepth 8000 in
theorem r191_308F {X : fx_Sc} {M M' : fx_M} {r : Option fx_V} {x3 s0 s1 : Int} (g : (-2147483648 ≤ s0 ∧ s0 < 2147483648) ∧ (-2147483648 ≤ s1 ∧ s1 < 2147483648)) (h : s0 ≠ s1) (k : Ev X 191 309 [fx_f 71, fx_f 0, fx_f 56, .inl (x3)] [] M r M') : Ev X 191 308 [fx_f 71, fx_f 0, fx_f 56, .inl (x3)] [.inl (s1), .inl (s0)] M r M' := by
  refine Ev.icF fd_e191 rfl g.1 g.2 (decide_eq_false h) ?_
  exact k
set_option maxRecDepth 8000 in
theorem r191_309 {X : fx_Sc} {M : fx_M} {x3 : Int} : Ev X 191 309 [fx_f 71, fx_f 0, fx_f 56, .inl (x3)] [] M (some (.inl (0))) M := by
  refine Ev.run 1 fd_e191 (i' := 310) (ls' := [fx_f 71, fx_f 0, fx_f 56, .inl (x3)]) (st' := [.inl (0)]) (M1 := M) rfl ?_
  exact Ev.ret2 fd_e191 rfl rfl (by decide)
set_option maxRecDepth 8000 in
theorem r191_311 {X : fx_Sc} {M M' : fx_M} {r : Option fx_V} {x3 z : Int} {M1 : fx_M} (hX : X.1 < 2147483648) (g : (0 ≤ (x3 + 1) ∧ (x3 + 1) < (X.1 : Int)) ∧ (0 ≤ (x3 + 2) ∧ (x3 + 2) < (X.1 : Int))) (hc : Ev X 22 0 [fx_f 0, .inl ((X.2 ((x3 + 1)).toNat)), .inl ((X.2 ((x3 + 2)).toNat))] [] M (some (.inl z)) M1) (k : Ev X 191 323 [fx_f 71, fx_f 0, fx_f 56, .inl (x3)] [.inl (z)] M1 r M') : Ev X 191 311 [fx_f 71, fx_f 0, fx_f 56, .inl (x3)] [] M r M' := by
  refine Ev.run 5 fd_e191 (i' := 316) (ls' := [fx_f 71, fx_f 0, fx_f 56, .inl (x3)]) (st' := [.inl ((x3 + 1)), fx_f 71, fx_f 0]) (M1 := M) rfl ?_
  refine Ev.xald fd_e191 rfl hX g.1 ?_
  refine Ev.run 4 fd_e191 (i' := 321) (ls' := [fx_f 71, fx_f 0, fx_f 56, .inl (x3)]) (st' := [.inl ((x3 + 2)), fx_f 71, .inl ((X.2 ((x3 + 1)).toNat)), fx_f 0]) (M1 := M) rfl ?_
  refine Ev.xald fd_e191 rfl hX g.2 ?_
  refine Ev.callV (vs := [fx_f 0, .inl ((X.2 ((x3 + 1)).toNat)), .inl ((X.2 ((x3 + 2)).toNat))]) (rest := []) (r1 := (some (.inl z))) fd_e191 rfl rfl rfl (Nat.le_of_ble_eq_true rfl) (Nat.le_of_ble_eq_true rfl) rfl hc ?_
  exact k
set_option maxRecDepth 8000 in
theorem r191_323 {X : fx_Sc} {M M' : fx_M} {r : Option fx_V} {x3 s0 z : Int} {M1 : fx_M} (hX : X.1 < 2147483648) (g : (0 ≤ (x3 + 1) ∧ (x3 + 1) < (X.1 : Int)) ∧ (0 ≤ (x3 + 2) ∧ (x3 + 2) < (X.1 : Int))) (hc : Ev X 163 0 [fx_f 56, .inl ((X.2 ((x3 + 1)).toNat)), .inl ((X.2 ((x3 + 2)).toNat))] [] M (some (.inl z)) M1) (k : Ev X 191 335 [fx_f 71, fx_f 0, fx_f 56, .inl (x3)] [.inl (z), .inl (s0)] M1 r M') : Ev X 191 323 [fx_f 71, fx_f 0, fx_f 56, .inl (x3)] [.inl (s0)] M r M' := by
  refine Ev.run 5 fd_e191 (i' := 328) (ls' := [fx_f 71, fx_f 0, fx_f 56, .inl (x3)]) (st' := [.inl ((x3 + 1)), fx_f 71, fx_f 56, .inl (s0)]) (M1 := M) rfl ?_
  refine Ev.xald fd_e191 rfl hX g.1 ?_
  refine Ev.run 4 fd_e191 (i' := 333) (ls' := [fx_f 71, fx_f 0, fx_f 56, .inl (x3)]) (st' := [.inl ((x3 + 2)), fx_f 71, .inl ((X.2 ((x3 + 1)).toNat)), fx_f 56, .inl (s0)]) (M1 := M) rfl ?_
  refine Ev.xald fd_e191 rfl hX g.2 ?_
  refine Ev.callV (vs := [fx_f 56, .inl ((X.2 ((x3 + 1)).toNat)), .inl ((X.2 ((x3 + 2)).toNat))]) (rest := [.inl (s0)]) (r1 := (some (.inl z))) fd_e191 rfl rfl rfl (Nat.le_of_ble_eq_true rfl) (Nat.le_of_ble_eq_true rfl) rfl hc ?_
  exact k
set_option maxRecDepth 8000 in
theorem r191_335T {X : fx_Sc} {M M' : fx_M} {r : Option fx_V} {x3 s0 s1 : Int} (g : (-2147483648 ≤ s0 ∧ s0 < 2147483648) ∧ (-2147483648 ≤ s1 ∧ s1 < 2147483648)) (h : s0 = s1) (k : Ev X 191 559 [fx_f 71, fx_f 0, fx_f 56, .inl (x3)] [] M r M') : Ev X 191 335 [fx_f 71, fx_f 0, fx_f 56, .inl (x3)] [.inl (s1), .inl (s0)] M r M' := by
  refine Ev.icT fd_e191 rfl g.1 g.2 (decide_eq_true h) ?_
  exact k
set_option maxRecDepth 8000 in
theorem r191_335F {X : fx_Sc} {M M' : fx_M} {r : Option fx_V} {x3 s0 s1 : Int} (g : (-2147483648 ≤ s0 ∧ s0 < 2147483648) ∧ (-2147483648 ≤ s1 ∧ s1 < 2147483648)) (h : s0 ≠ s1) (k : Ev X 191 336 [fx_f 71, fx_f 0, fx_f 56, .inl (x3)] [] M r M') : Ev X 191 335 [fx_f 71, fx_f 0, fx_f 56, .inl (x3)] [.inl (s1), .inl (s0)] M r M' := by
  refine Ev.icF fd_e191 rfl g.1 g.2 (decide_eq_false h) ?_
  exact k
set_option maxRecDepth 8000 in
theorem r191_336 {X : fx_Sc} {M : fx_M} {x3 : Int} : Ev X 191 336 [fx_f 71, fx_f 0, fx_f 56, .inl (x3)] [] M (some (.inl (0))) M := by
  refine Ev.run 1 fd_e191 (i' := 337) (ls' := [fx_f 71, fx_f 0, fx_f 56, .inl (x3)]) (st' := [.inl (0)]) (M1 := M) rfl ?_
  exact Ev.ret2 fd_e191 rfl rfl (by decide)
set_option maxRecDepth 8000 in
theorem r191_338 {X : fx_Sc} {M M' : fx_M} {r : Option fx_V} {x3 z : Int} {M1 : fx_M} (hX : X.1 < 2147483648) (g : (0 ≤ (x3 + 1) ∧ (x3 + 1) < (X.1 : Int)) ∧ (0 ≤ (x3 + 2) ∧ (x3 + 2) < (X.1 : Int))) (hc : Ev X 23 0 [fx_f 0, .inl ((X.2 ((x3 + 1)).toNat)), .inl ((X.2 ((x3 + 2)).toNat))] [] M (some (.inl z)) M1) (k : Ev X 191 350 [fx_f 71, fx_f 0, fx_f 56, .inl (x3)] [.inl (z)] M1 r M') : Ev X 191 338 [fx_f 71, fx_f 0, fx_f 56, .inl (x3)] [] M r M' := by
  refine Ev.run 5 fd_e191 (i' := 343) (ls' := [fx_f 71, fx_f 0, fx_f 56, .inl (x3)]) (st' := [.inl ((x3 + 1)), fx_f 71, fx_f 0]) (M1 := M) rfl ?_
  refine Ev.xald fd_e191 rfl hX g.1 ?_
  refine Ev.run 4 fd_e191 (i' := 348) (ls' := [fx_f 71, fx_f 0, fx_f 56, .inl (x3)]) (st' := [.inl ((x3 + 2)), fx_f 71, .inl ((X.2 ((x3 + 1)).toNat)), fx_f 0]) (M1 := M) rfl ?_
  refine Ev.xald fd_e191 rfl hX g.2 ?_
  refine Ev.callV (vs := [fx_f 0, .inl ((X.2 ((x3 + 1)).toNat)), .inl ((X.2 ((x3 + 2)).toNat))]) (rest := []) (r1 := (some (.inl z))) fd_e191 rfl rfl rfl (Nat.le_of_ble_eq_true rfl) (Nat.le_of_ble_eq_true rfl) rfl hc ?_
  exact k
set_option maxRecDepth 8000 in
theorem r191_350 {X : fx_Sc} {M M' : fx_M} {r : Option fx_V} {x3 s0 z : Int} {M1 : fx_M} (hX : X.1 < 2147483648) (g : (0 ≤ (x3 + 1) ∧ (x3 + 1) < (X.1 : Int)) ∧ (0 ≤ (x3 + 2) ∧ (x3 + 2) < (X.1 : Int))) (hc : Ev X 166 0 [fx_f 56, .inl ((X.2 ((x3 + 1)).toNat)), .inl ((X.2 ((x3 + 2)).toNat))] [] M (some (.inl z)) M1) (k : Ev X 191 362 [fx_f 71, fx_f 0, fx_f 56, .inl (x3)] [.inl (z), .inl (s0)] M1 r M') : Ev X 191 350 [fx_f 71, fx_f 0, fx_f 56, .inl (x3)] [.inl (s0)] M r M' := by
  refine Ev.run 5 fd_e191 (i' := 355) (ls' := [fx_f 71, fx_f 0, fx_f 56, .inl (x3)]) (st' := [.inl ((x3 + 1)), fx_f 71, fx_f 56, .inl (s0)]) (M1 := M) rfl ?_
  refine Ev.xald fd_e191 rfl hX g.1 ?_
  refine Ev.run 4 fd_e191 (i' := 360) (ls' := [fx_f 71, fx_f 0, fx_f 56, .inl (x3)]) (st' := [.inl ((x3 + 2)), fx_f 71, .inl ((X.2 ((x3 + 1)).toNat)), fx_f 56, .inl (s0)]) (M1 := M) rfl ?_
  refine Ev.xald fd_e191 rfl hX g.2 ?_
  refine Ev.callV (vs := [fx_f 56, .inl ((X.2 ((x3 + 1)).toNat)), .inl ((X.2 ((x3 + 2)).toNat))]) (rest := [.inl (s0)]) (r1 := (some (.inl z))) fd_e191 rfl rfl rfl (Nat.le_of_ble_eq_true rfl) (Nat.le_of_ble_eq_true rfl) rfl hc ?_
  exact k
set_option maxRecDepth 8000 in
theorem r191_362T {X : fx_Sc} {M M' : fx_M} {r : Option fx_V} {x3 s0 s1 : Int} (g : (-2147483648 ≤ s0 ∧ s0 < 2147483648) ∧ (-2147483648 ≤ s1 ∧ s1 < 2147483648)) (h : s0 = s1) (k : Ev X 191 559 [fx_f 71, fx_f 0, fx_f 56, .inl (x3)] [] M r M') : Ev X 191 362 [fx_f 71, fx_f 0, fx_f 56, .inl (x3)] [.inl (s1), .inl (s0)] M r M' := by
  refine Ev.icT fd_e191 rfl g.1 g.2 (decide_eq_true h) ?_
  exact k
set_option maxRecDepth 8000 in
theorem r191_362F {X : fx_Sc} {M M' : fx_M} {r : Option fx_V} {x3 s0 s1 : Int} (g : (-2147483648 ≤ s0 ∧ s0 < 2147483648) ∧ (-2147483648 ≤ s1 ∧ s1 < 2147483648)) (h : s0 ≠ s1) (k : Ev X 191 363 [fx_f 71, fx_f 0, fx_f 56, .inl (x3)] [] M r M') : Ev X 191 362 [fx_f 71, fx_f 0, fx_f 56, .inl (x3)] [.inl (s1), .inl (s0)] M r M' := by
  refine Ev.icF fd_e191 rfl g.1 g.2 (decide_eq_false h) ?_
  exact k
set_option maxRecDepth 8000 in
theorem r191_363 {X : fx_Sc} {M : fx_M} {x3 : Int} : Ev X 191 363 [fx_f 71, fx_f 0, fx_f 56, .inl (x3)] [] M (some (.inl (0))) M := by
  refine Ev.run 1 fd_e191 (i' := 364) (ls' := [fx_f 71, fx_f 0, fx_f 56, .inl (x3)]) (st' := [.inl (0)]) (M1 := M) rfl ?_
  exact Ev.ret2 fd_e191 rfl rfl (by decide)
set_option maxRecDepth 8000 in
theorem r191_365 {X : fx_Sc} {M M' : fx_M} {r : Option fx_V} {x3 z : Int} {M1 : fx_M} (hX : X.1 < 2147483648) (g : (0 ≤ (x3 + 1) ∧ (x3 + 1) < (X.1 : Int))) (hc : Ev X 24 0 [fx_f 0, .inl ((X.2 ((x3 + 1)).toNat))] [] M (some (.inl z)) M1) (k : Ev X 191 372 [fx_f 71, fx_f 0, fx_f 56, .inl (x3)] [.inl (z)] M1 r M') : Ev X 191 365 [fx_f 71, fx_f 0, fx_f 56, .inl (x3)] [] M r M' := by
  refine Ev.run 5 fd_e191 (i' := 370) (ls' := [fx_f 71, fx_f 0, fx_f 56, .inl (x3)]) (st' := [.inl ((x3 + 1)), fx_f 71, fx_f 0]) (M1 := M) rfl ?_
  refine Ev.xald fd_e191 rfl hX g ?_
  refine Ev.callV (vs := [fx_f 0, .inl ((X.2 ((x3 + 1)).toNat))]) (rest := []) (r1 := (some (.inl z))) fd_e191 rfl rfl rfl (Nat.le_of_ble_eq_true rfl) (Nat.le_of_ble_eq_true rfl) rfl hc ?_
  exact k
set_option maxRecDepth 8000 in
theorem r191_372 {X : fx_Sc} {M M' : fx_M} {r : Option fx_V} {x3 s0 z : Int} {M1 : fx_M} (hX : X.1 < 2147483648) (g : (0 ≤ (x3 + 1) ∧ (x3 + 1) < (X.1 : Int))) (hc : Ev X 168 0 [fx_f 56, .inl ((X.2 ((x3 + 1)).toNat))] [] M (some (.inl z)) M1) (k : Ev X 191 379 [fx_f 71, fx_f 0, fx_f 56, .inl (x3)] [.inl (z), .inl (s0)] M1 r M') : Ev X 191 372 [fx_f 71, fx_f 0, fx_f 56, .inl (x3)] [.inl (s0)] M r M' := by
  refine Ev.run 5 fd_e191 (i' := 377) (ls' := [fx_f 71, fx_f 0, fx_f 56, .inl (x3)]) (st' := [.inl ((x3 + 1)), fx_f 71, fx_f 56, .inl (s0)]) (M1 := M) rfl ?_
  refine Ev.xald fd_e191 rfl hX g ?_
  refine Ev.callV (vs := [fx_f 56, .inl ((X.2 ((x3 + 1)).toNat))]) (rest := [.inl (s0)]) (r1 := (some (.inl z))) fd_e191 rfl rfl rfl (Nat.le_of_ble_eq_true rfl) (Nat.le_of_ble_eq_true rfl) rfl hc ?_
  exact k
set_option maxRecDepth 8000 in
theorem r191_379T {X : fx_Sc} {M M' : fx_M} {r : Option fx_V} {x3 s0 s1 : Int} (g : (-2147483648 ≤ s0 ∧ s0 < 2147483648) ∧ (-2147483648 ≤ s1 ∧ s1 < 2147483648)) (h : s0 = s1) (k : Ev X 191 559 [fx_f 71, fx_f 0, fx_f 56, .inl (x3)] [] M r M') : Ev X 191 379 [fx_f 71, fx_f 0, fx_f 56, .inl (x3)] [.inl (s1), .inl (s0)] M r M' := by
  refine Ev.icT fd_e191 rfl g.1 g.2 (decide_eq_true h) ?_
  exact k
set_option maxRecDepth 8000 in
theorem r191_379F {X : fx_Sc} {M M' : fx_M} {r : Option fx_V} {x3 s0 s1 : Int} (g : (-2147483648 ≤ s0 ∧ s0 < 2147483648) ∧ (-2147483648 ≤ s1 ∧ s1 < 2147483648)) (h : s0 ≠ s1) (k : Ev X 191 380 [fx_f 71, fx_f 0, fx_f 56, .inl (x3)] [] M r M') : Ev X 191 379 [fx_f 71, fx_f 0, fx_f 56, .inl (x3)] [.inl (s1), .inl (s0)] M r M' := by
  refine Ev.icF fd_e191 rfl g.1 g.2 (decide_eq_false h) ?_
  exact k
set_option maxRecDepth 8000 in
theorem r191_380 {X : fx_Sc} {M : fx_M} {x3 : Int} : Ev X 191 380 [fx_f 71, fx_f 0, fx_f 56, .inl (x3)] [] M (some (.inl (0))) M := by
  refine Ev.run 1 fd_e191 (i' := 381) (ls' := [fx_f 71, fx_f 0, fx_f 56, .inl (x3)]) (st' := [.inl (0)]) (M1 := M) rfl ?_
  exact Ev.ret2 fd_e191 rfl rfl (by decide)
set_option maxRecDepth 8000 in
theorem r191_382 {X : fx_Sc} {M M' : fx_M} {r : Option fx_V} {x3 z : Int} {M1 : fx_M} (hX : X.1 < 2147483648) (g : (0 ≤ (x3 + 1) ∧ (x3 + 1) < (X.1 : Int)) ∧ (0 ≤ (x3 + 2) ∧ (x3 + 2) < (X.1 : Int))) (hc : Ev X 26 0 [fx_f 0, .inl ((X.2 ((x3 + 1)).toNat)), .inl ((X.2 ((x3 + 2)).toNat)), fx_u, fx_u, fx_u, fx_u, fx_u, fx_u] [] M (some (.inl z)) M1) (k : Ev X 191 394 [fx_f 71, fx_f 0, fx_f 56, .inl (x3)] [.inl (z)] M1 r M') : Ev X 191 382 [fx_f 71, fx_f 0, fx_f 56, .inl (x3)] [] M r M' := by
  refine Ev.run 5 fd_e191 (i' := 387) (ls' := [fx_f 71, fx_f 0, fx_f 56, .inl (x3)]) (st' := [.inl ((x3 + 1)), fx_f 71, fx_f 0]) (M1 := M) rfl ?_
  refine Ev.xald fd_e191 rfl hX g.1 ?_
  refine Ev.run 4 fd_e191 (i' := 392) (ls' := [fx_f 71, fx_f 0, fx_f 56, .inl (x3)]) (st' := [.inl ((x3 + 2)), fx_f 71, .inl ((X.2 ((x3 + 1)).toNat)), fx_f 0]) (M1 := M) rfl ?_
  refine Ev.xald fd_e191 rfl hX g.2 ?_
  refine Ev.callV (vs := [fx_f 0, .inl ((X.2 ((x3 + 1)).toNat)), .inl ((X.2 ((x3 + 2)).toNat))]) (rest := []) (r1 := (some (.inl z))) fd_e191 rfl rfl rfl (Nat.le_of_ble_eq_true rfl) (Nat.le_of_ble_eq_true rfl) rfl hc ?_
  exact k
set_option maxRecDepth 8000 in
theorem r191_394 {X : fx_Sc} {M M' : fx_M} {r : Option fx_V} {x3 s0 z : Int} {M1 : fx_M} (hX : X.1 < 2147483648) (g : (0 ≤ (x3 + 1) ∧ (x3 + 1) < (X.1 : Int)) ∧ (0 ≤ (x3 + 2) ∧ (x3 + 2) < (X.1 : Int))) (hc : Ev X 171 0 [fx_f 56, .inl ((X.2 ((x3 + 1)).toNat)), .inl ((X.2 ((x3 + 2)).toNat)), fx_u, fx_u, fx_u, fx_u, fx_u] [] M (some (.inl z)) M1) (k : Ev X 191 406 [fx_f 71, fx_f 0, fx_f 56, .inl (x3)] [.inl (z), .inl (s0)] M1 r M') : Ev X 191 394 [fx_f 71, fx_f 0, fx_f 56, .inl (x3)] [.inl (s0)] M r M' := by
  refine Ev.run 5 fd_e191 (i' := 399) (ls' := [fx_f 71, fx_f 0, fx_f 56, .inl (x3)]) (st' := [.inl ((x3 + 1)), fx_f 71, fx_f 56, .inl (s0)]) (M1 := M) rfl ?_
  refine Ev.xald fd_e191 rfl hX g.1 ?_
  refine Ev.run 4 fd_e191 (i' := 404) (ls' := [fx_f 71, fx_f 0, fx_f 56, .inl (x3)]) (st' := [.inl ((x3 + 2)), fx_f 71, .inl ((X.2 ((x3 + 1)).toNat)), fx_f 56, .inl (s0)]) (M1 := M) rfl ?_
  refine Ev.xald fd_e191 rfl hX g.2 ?_
  refine Ev.callV (vs := [fx_f 56, .inl ((X.2 ((x3 + 1)).toNat)), .inl ((X.2 ((x3 + 2)).toNat))]) (rest := [.inl (s0)]) (r1 := (some (.inl z))) fd_e191 rfl rfl rfl (Nat.le_of_ble_eq_true rfl) (Nat.le_of_ble_eq_true rfl) rfl hc ?_
  exact k
set_option maxRecDepth 8000 in
theorem r191_406T {X : fx_Sc} {M M' : fx_M} {r : Option fx_V} {x3 s0 s1 : Int} (g : (-2147483648 ≤ s0 ∧ s0 < 2147483648) ∧ (-2147483648 ≤ s1 ∧ s1 < 2147483648)) (h : s0 = s1) (k : Ev X 191 559 [fx_f 71, fx_f 0, fx_f 56, .inl (x3)] [] M r M') : Ev X 191 406 [fx_f 71, fx_f 0, fx_f 56, .inl (x3)] [.inl (s1), .inl (s0)] M r M' := by
  refine Ev.icT fd_e191 rfl g.1 g.2 (decide_eq_true h) ?_
  exact k
set_option maxRecDepth 8000 in
theorem r191_406F {X : fx_Sc} {M M' : fx_M} {r : Option fx_V} {x3 s0 s1 : Int} (g : (-2147483648 ≤ s0 ∧ s0 < 2147483648) ∧ (-2147483648 ≤ s1 ∧ s1 < 2147483648)) (h : s0 ≠ s1) (k : Ev X 191 407 [fx_f 71, fx_f 0, fx_f 56, .inl (x3)] [] M r M') : Ev X 191 406 [fx_f 71, fx_f 0, fx_f 56, .inl (x3)] [.inl (s1), .inl (s0)] M r M' := by
  refine Ev.icF fd_e191 rfl g.1 g.2 (decide_eq_false h) ?_
  exact k
set_option maxRecDepth 8000 in
theorem r191_407 {X : fx_Sc} {M : fx_M} {x3 : Int} : Ev X 191 407 [fx_f 71, fx_f 0, fx_f 56, .inl (x3)] [] M (some (.inl (0))) M := by
  refine Ev.run 1 fd_e191 (i' := 408) (ls' := [fx_f 71, fx_f 0, fx_f 56, .inl (x3)]) (st' := [.inl (0)]) (M1 := M) rfl ?_
  exact Ev.ret2 fd_e191 rfl rfl (by decide)
set_option maxRecDepth 8000 in
theorem r191_409 {X : fx_Sc} {M M' : fx_M} {r : Option fx_V} {x3 z : Int} {M1 : fx_M} (hX : X.1 < 2147483648) (g : (0 ≤ (x3 + 1) ∧ (x3 + 1) < (X.1 : Int))) (hc : Ev X 28 0 [fx_f 0, .inl ((X.2 ((x3 + 1)).toNat)), fx_u, fx_u, fx_u, fx_u, fx_u] [] M (some (.inl z)) M1) (k : Ev X 191 416 [fx_f 71, fx_f 0, fx_f 56, .inl (x3)] [.inl (z)] M1 r M') : Ev X 191 409 [fx_f 71, fx_f 0, fx_f 56, .inl (x3)] [] M r M' := by
  refine Ev.run 5 fd_e191 (i' := 414) (ls' := [fx_f 71, fx_f 0, fx_f 56, .inl (x3)]) (st' := [.inl ((x3 + 1)), fx_f 71, fx_f 0]) (M1 := M) rfl ?_
  refine Ev.xald fd_e191 rfl hX g ?_
  refine Ev.callV (vs := [fx_f 0, .inl ((X.2 ((x3 + 1)).toNat))]) (rest := []) (r1 := (some (.inl z))) fd_e191 rfl rfl rfl (Nat.le_of_ble_eq_true rfl) (Nat.le_of_ble_eq_true rfl) rfl hc ?_
  exact k
set_option maxRecDepth 8000 in
theorem r191_416 {X : fx_Sc} {M M' : fx_M} {r : Option fx_V} {x3 s0 z : Int} {M1 : fx_M} (hX : X.1 < 2147483648) (g : (0 ≤ (x3 + 1) ∧ (x3 + 1) < (X.1 : Int))) (hc : Ev X 174 0 [fx_f 56, .inl ((X.2 ((x3 + 1)).toNat)), fx_u, fx_u, fx_u, fx_u] [] M (some (.inl z)) M1) (k : Ev X 191 423 [fx_f 71, fx_f 0, fx_f 56, .inl (x3)] [.inl (z), .inl (s0)] M1 r M') : Ev X 191 416 [fx_f 71, fx_f 0, fx_f 56, .inl (x3)] [.inl (s0)] M r M' := by
  refine Ev.run 5 fd_e191 (i' := 421) (ls' := [fx_f 71, fx_f 0, fx_f 56, .inl (x3)]) (st' := [.inl ((x3 + 1)), fx_f 71, fx_f 56, .inl (s0)]) (M1 := M) rfl ?_
  refine Ev.xald fd_e191 rfl hX g ?_
  refine Ev.callV (vs := [fx_f 56, .inl ((X.2 ((x3 + 1)).toNat))]) (rest := [.inl (s0)]) (r1 := (some (.inl z))) fd_e191 rfl rfl rfl (Nat.le_of_ble_eq_true rfl) (Nat.le_of_ble_eq_true rfl) rfl hc ?_
  exact k
set_option maxRecDepth 8000 in
theorem r191_423T {X : fx_Sc} {M M' : fx_M} {r : Option fx_V} {x3 s0 s1 : Int} (g : (-2147483648 ≤ s0 ∧ s0 < 2147483648) ∧ (-2147483648 ≤ s1 ∧ s1 < 2147483648)) (h : s0 = s1) (k : Ev X 191 559 [fx_f 71, fx_f 0, fx_f 56, .inl (x3)] [] M r M') : Ev X 191 423 [fx_f 71, fx_f 0, fx_f 56, .inl (x3)] [.inl (s1), .inl (s0)] M r M' := by
  refine Ev.icT fd_e191 rfl g.1 g.2 (decide_eq_true h) ?_
  exact k
set_option maxRecDepth 8000 in
theorem r191_423F {X : fx_Sc} {M M' : fx_M} {r : Option fx_V} {x3 s0 s1 : Int} (g : (-2147483648 ≤ s0 ∧ s0 < 2147483648) ∧ (-2147483648 ≤ s1 ∧ s1 < 2147483648)) (h : s0 ≠ s1) (k : Ev X 191 424 [fx_f 71, fx_f 0, fx_f 56, .inl (x3)] [] M r M') : Ev X 191 423 [fx_f 71, fx_f 0, fx_f 56, .inl (x3)] [.inl (s1), .inl (s0)] M r M' := by
  refine Ev.icF fd_e191 rfl g.1 g.2 (decide_eq_false h) ?_
  exact k
set_option maxRecDepth 8000 in
theorem r191_424 {X : fx_Sc} {M : fx_M} {x3 : Int} : Ev X 191 424 [fx_f 71, fx_f 0, fx_f 56, .inl (x3)] [] M (some (.inl (0))) M := by
  refine Ev.run 1 fd_e191 (i' := 425) (ls' := [fx_f 71, fx_f 0, fx_f 56, .inl (x3)]) (st' := [.inl (0)]) (M1 := M) rfl ?_
  exact Ev.ret2 fd_e191 rfl rfl (by decide)
set_option maxRecDepth 8000 in
theorem r191_426 {X : fx_Sc} {M M' : fx_M} {r : Option fx_V} {x3 z : Int} {M1 : fx_M} (hX : X.1 < 2147483648) (g : (0 ≤ (x3 + 1) ∧ (x3 + 1) < (X.1 : Int)) ∧ (0 ≤ (x3 + 2) ∧ (x3 + 2) < (X.1 : Int)) ∧ (0 ≤ (x3 + 3) ∧ (x3 + 3) < (X.1 : Int))) (hc : Ev X 30 0 [fx_f 0, .inl ((X.2 ((x3 + 1)).toNat)), .inl ((X.2 ((x3 + 2)).toNat)), .inl ((X.2 ((x3 + 3)).toNat))] [] M (some (.inl z)) M1) (k : Ev X 191 443 [fx_f 71, fx_f 0, fx_f 56, .inl (x3)] [.inl (z)] M1 r M') : Ev X 191 426 [fx_f 71, fx_f 0, fx_f 56, .inl (x3)] [] M r M' := by
  refine Ev.run 5 fd_e191 (i' := 431) (ls' := [fx_f 71, fx_f 0, fx_f 56, .inl (x3)]) (st' := [.inl ((x3 + 1)), fx_f 71, fx_f 0]) (M1 := M) rfl ?_
  refine Ev.xald fd_e191 rfl hX g.1 ?_
  refine Ev.run 4 fd_e191 (i' := 436) (ls' := [fx_f 71, fx_f 0, fx_f 56, .inl (x3)]) (st' := [.inl ((x3 + 2)), fx_f 71, .inl ((X.2 ((x3 + 1)).toNat)), fx_f 0]) (M1 := M) rfl ?_
  refine Ev.xald fd_e191 rfl hX g.2.1 ?_
  refine Ev.run 4 fd_e191 (i' := 441) (ls' := [fx_f 71, fx_f 0, fx_f 56, .inl (x3)]) (st' := [.inl ((x3 + 3)), fx_f 71, .inl ((X.2 ((x3 + 2)).toNat)), .inl ((X.2 ((x3 + 1)).toNat)), fx_f 0]) (M1 := M) rfl ?_
  refine Ev.xald fd_e191 rfl hX g.2.2 ?_
  refine Ev.callV (vs := [fx_f 0, .inl ((X.2 ((x3 + 1)).toNat)), .inl ((X.2 ((x3 + 2)).toNat)), .inl ((X.2 ((x3 + 3)).toNat))]) (rest := []) (r1 := (some (.inl z))) fd_e191 rfl rfl rfl (Nat.le_of_ble_eq_true rfl) (Nat.le_of_ble_eq_true rfl) rfl hc ?_
  exact k
set_option maxRecDepth 8000 in
theorem r191_443 {X : fx_Sc} {M M' : fx_M} {r : Option fx_V} {x3 s0 z : Int} {M1 : fx_M} (hX : X.1 < 2147483648) (g : (0 ≤ (x3 + 1) ∧ (x3 + 1) < (X.1 : Int)) ∧ (0 ≤ (x3 + 2) ∧ (x3 + 2) < (X.1 : Int)) ∧ (0 ≤ (x3 + 3) ∧ (x3 + 3) < (X.1 : Int))) (hc : Ev X 175 0 [fx_f 56, .inl ((X.2 ((x3 + 1)).toNat)), .inl ((X.2 ((x3 + 2)).toNat)), .inl ((X.2 ((x3 + 3)).toNat)), fx_u] [] M (some (.inl z)) M1) (k : Ev X 191 460 [fx_f 71, fx_f 0, fx_f 56, .inl (x3)] [.inl (z), .inl (s0)] M1 r M') : Ev X 191 443 [fx_f 71, fx_f 0, fx_f 56, .inl (x3)] [.inl (s0)] M r M' := by
  refine Ev.run 5 fd_e191 (i' := 448) (ls' := [fx_f 71, fx_f 0, fx_f 56, .inl (x3)]) (st' := [.inl ((x3 + 1)), fx_f 71, fx_f 56, .inl (s0)]) (M1 := M) rfl ?_
  refine Ev.xald fd_e191 rfl hX g.1 ?_
  refine Ev.run 4 fd_e191 (i' := 453) (ls' := [fx_f 71, fx_f 0, fx_f 56, .inl (x3)]) (st' := [.inl ((x3 + 2)), fx_f 71, .inl ((X.2 ((x3 + 1)).toNat)), fx_f 56, .inl (s0)]) (M1 := M) rfl ?_
  refine Ev.xald fd_e191 rfl hX g.2.1 ?_
  refine Ev.run 4 fd_e191 (i' := 458) (ls' := [fx_f 71, fx_f 0, fx_f 56, .inl (x3)]) (st' := [.inl ((x3 + 3)), fx_f 71, .inl ((X.2 ((x3 + 2)).toNat)), .inl ((X.2 ((x3 + 1)).toNat)), fx_f 56, .inl (s0)]) (M1 := M) rfl ?_
  refine Ev.xald fd_e191 rfl hX g.2.2 ?_
  refine Ev.callV (vs := [fx_f 56, .inl ((X.2 ((x3 + 1)).toNat)), .inl ((X.2 ((x3 + 2)).toNat)), .inl ((X.2 ((x3 + 3)).toNat))]) (rest := [.inl (s0)]) (r1 := (some (.inl z))) fd_e191 rfl rfl rfl (Nat.le_of_ble_eq_true rfl) (Nat.le_of_ble_eq_true rfl) rfl hc ?_
  exact k
set_option maxRecDepth 8000 in
theorem r191_460T {X : fx_Sc} {M M' : fx_M} {r : Option fx_V} {x3 s0 s1 : Int} (g : (-2147483648 ≤ s0 ∧ s0 < 2147483648) ∧ (-2147483648 ≤ s1 ∧ s1 < 2147483648)) (h : s0 = s1) (k : Ev X 191 559 [fx_f 71, fx_f 0, fx_f 56, .inl (x3)] [] M r M') : Ev X 191 460 [fx_f 71, fx_f 0, fx_f 56, .inl (x3)] [.inl (s1), .inl (s0)] M r M' := by
  refine Ev.icT fd_e191 rfl g.1 g.2 (decide_eq_true h) ?_
  exact k
set_option maxRecDepth 8000 in
theorem r191_460F {X : fx_Sc} {M M' : fx_M} {r : Option fx_V} {x3 s0 s1 : Int} (g : (-2147483648 ≤ s0 ∧ s0 < 2147483648) ∧ (-2147483648 ≤ s1 ∧ s1 < 2147483648)) (h : s0 ≠ s1) (k : Ev X 191 461 [fx_f 71, fx_f 0, fx_f 56, .inl (x3)] [] M r M') : Ev X 191 460 [fx_f 71, fx_f 0, fx_f 56, .inl (x3)] [.inl (s1), .inl (s0)] M r M' := by
  refine Ev.icF fd_e191 rfl g.1 g.2 (decide_eq_false h) ?_
  exact k
set_option maxRecDepth 8000 in
theorem r191_461 {X : fx_Sc} {M : fx_M} {x3 : Int} : Ev X 191 461 [fx_f 71, fx_f 0, fx_f 56, .inl (x3)] [] M (some (.inl (0))) M := by
  refine Ev.run 1 fd_e191 (i' := 462) (ls' := [fx_f 71, fx_f 0, fx_f 56, .inl (x3)]) (st' := [.inl (0)]) (M1 := M) rfl ?_
  exact Ev.ret2 fd_e191 rfl rfl (by decide)
set_option maxRecDepth 8000 in
theorem r191_463 {X : fx_Sc} {M M' : fx_M} {r : Option fx_V} {x3 z : Int} {M1 : fx_M} (hX : X.1 < 2147483648) (g : (0 ≤ (x3 + 1) ∧ (x3 + 1) < (X.1 : Int)) ∧ (0 ≤ (x3 + 2) ∧ (x3 + 2) < (X.1 : Int))) (hc : Ev X 31 0 [fx_f 0, .inr (.inl ((((Int32.ofInt (X.2 ((x3 + 1)).toNat)).toInt64 <<< ((Int32.ofInt 32).toInt64 &&& 63)) ||| ((Int32.ofInt (X.2 ((x3 + 2)).toNat)).toInt64 &&& Int64.ofInt 4294967295)))), fx_u, fx_u] [] M (some (.inl z)) M1) (k : Ev X 191 482 [fx_f 71, fx_f 0, fx_f 56, .inl (x3)] [.inl (z)] M1 r M') : Ev X 191 463 [fx_f 71, fx_f 0, fx_f 56, .inl (x3)] [] M r M' := by
  refine Ev.run 5 fd_e191 (i' := 468) (ls' := [fx_f 71, fx_f 0, fx_f 56, .inl (x3)]) (st' := [.inl ((x3 + 1)), fx_f 71, fx_f 0]) (M1 := M) rfl ?_
  refine Ev.xald fd_e191 rfl hX g.1 ?_
  refine Ev.run 7 fd_e191 (i' := 476) (ls' := [fx_f 71, fx_f 0, fx_f 56, .inl (x3)]) (st' := [.inl ((x3 + 2)), fx_f 71, .inr (.inl (((Int32.ofInt (X.2 ((x3 + 1)).toNat)).toInt64 <<< ((Int32.ofInt 32).toInt64 &&& 63)))), fx_f 0]) (M1 := M) rfl ?_
  refine Ev.xald fd_e191 rfl hX g.2 ?_
  refine Ev.run 4 fd_e191 (i' := 481) (ls' := [fx_f 71, fx_f 0, fx_f 56, .inl (x3)]) (st' := [.inr (.inl ((((Int32.ofInt (X.2 ((x3 + 1)).toNat)).toInt64 <<< ((Int32.ofInt 32).toInt64 &&& 63)) ||| ((Int32.ofInt (X.2 ((x3 + 2)).toNat)).toInt64 &&& Int64.ofInt 4294967295)))), fx_f 0]) (M1 := M) rfl ?_
  refine Ev.callV (vs := [fx_f 0, .inr (.inl ((((Int32.ofInt (X.2 ((x3 + 1)).toNat)).toInt64 <<< ((Int32.ofInt 32).toInt64 &&& 63)) ||| ((Int32.ofInt (X.2 ((x3 + 2)).toNat)).toInt64 &&& Int64.ofInt 4294967295))))]) (rest := []) (r1 := (some (.inl z))) fd_e191 rfl rfl rfl (Nat.le_of_ble_eq_true rfl) (Nat.le_of_ble_eq_true rfl) rfl hc ?_
  exact k
set_option maxRecDepth 8000 in
theorem r191_482 {X : fx_Sc} {M M' : fx_M} {r : Option fx_V} {x3 s0 z : Int} {M1 : fx_M} (hX : X.1 < 2147483648) (g : (0 ≤ (x3 + 1) ∧ (x3 + 1) < (X.1 : Int)) ∧ (0 ≤ (x3 + 2) ∧ (x3 + 2) < (X.1 : Int))) (hc : Ev X 176 0 [fx_f 56, .inr (.inl ((((Int32.ofInt (X.2 ((x3 + 1)).toNat)).toInt64 <<< ((Int32.ofInt 32).toInt64 &&& 63)) ||| ((Int32.ofInt (X.2 ((x3 + 2)).toNat)).toInt64 &&& Int64.ofInt 4294967295)))), fx_u, fx_u, fx_u, fx_u, fx_u, fx_u] [] M (some (.inl z)) M1) (k : Ev X 191 501 [fx_f 71, fx_f 0, fx_f 56, .inl (x3)] [.inl (z), .inl (s0)] M1 r M') : Ev X 191 482 [fx_f 71, fx_f 0, fx_f 56, .inl (x3)] [.inl (s0)] M r M' := by
  refine Ev.run 5 fd_e191 (i' := 487) (ls' := [fx_f 71, fx_f 0, fx_f 56, .inl (x3)]) (st' := [.inl ((x3 + 1)), fx_f 71, fx_f 56, .inl (s0)]) (M1 := M) rfl ?_
  refine Ev.xald fd_e191 rfl hX g.1 ?_
  refine Ev.run 7 fd_e191 (i' := 495) (ls' := [fx_f 71, fx_f 0, fx_f 56, .inl (x3)]) (st' := [.inl ((x3 + 2)), fx_f 71, .inr (.inl (((Int32.ofInt (X.2 ((x3 + 1)).toNat)).toInt64 <<< ((Int32.ofInt 32).toInt64 &&& 63)))), fx_f 56, .inl (s0)]) (M1 := M) rfl ?_
  refine Ev.xald fd_e191 rfl hX g.2 ?_
  refine Ev.run 4 fd_e191 (i' := 500) (ls' := [fx_f 71, fx_f 0, fx_f 56, .inl (x3)]) (st' := [.inr (.inl ((((Int32.ofInt (X.2 ((x3 + 1)).toNat)).toInt64 <<< ((Int32.ofInt 32).toInt64 &&& 63)) ||| ((Int32.ofInt (X.2 ((x3 + 2)).toNat)).toInt64 &&& Int64.ofInt 4294967295)))), fx_f 56, .inl (s0)]) (M1 := M) rfl ?_
  refine Ev.callV (vs := [fx_f 56, .inr (.inl ((((Int32.ofInt (X.2 ((x3 + 1)).toNat)).toInt64 <<< ((Int32.ofInt 32).toInt64 &&& 63)) ||| ((Int32.ofInt (X.2 ((x3 + 2)).toNat)).toInt64 &&& Int64.ofInt 4294967295))))]) (rest := [.inl (s0)]) (r1 := (some (.inl z))) fd_e191 rfl rfl rfl (Nat.le_of_ble_eq_true rfl) (Nat.le_of_ble_eq_true rfl) rfl hc ?_
  exact k
set_option maxRecDepth 8000 in
theorem r191_501T {X : fx_Sc} {M M' : fx_M} {r : Option fx_V} {x3 s0 s1 : Int} (g : (-2147483648 ≤ s0 ∧ s0 < 2147483648) ∧ (-2147483648 ≤ s1 ∧ s1 < 2147483648)) (h : s0 = s1) (k : Ev X 191 559 [fx_f 71, fx_f 0, fx_f 56, .inl (x3)] [] M r M') : Ev X 191 501 [fx_f 71, fx_f 0, fx_f 56, .inl (x3)] [.inl (s1), .inl (s0)] M r M' := by
  refine Ev.icT fd_e191 rfl g.1 g.2 (decide_eq_true h) ?_
  exact k
set_option maxRecDepth 8000 in
theorem r191_501F {X : fx_Sc} {M M' : fx_M} {r : Option fx_V} {x3 s0 s1 : Int} (g : (-2147483648 ≤ s0 ∧ s0 < 2147483648) ∧ (-2147483648 ≤ s1 ∧ s1 < 2147483648)) (h : s0 ≠ s1) (k : Ev X 191 502 [fx_f 71, fx_f 0, fx_f 56, .inl (x3)] [] M r M') : Ev X 191 501 [fx_f 71, fx_f 0, fx_f 56, .inl (x3)] [.inl (s1), .inl (s0)] M r M' := by
  refine Ev.icF fd_e191 rfl g.1 g.2 (decide_eq_false h) ?_
  exact k
set_option maxRecDepth 8000 in
theorem r191_502 {X : fx_Sc} {M : fx_M} {x3 : Int} : Ev X 191 502 [fx_f 71, fx_f 0, fx_f 56, .inl (x3)] [] M (some (.inl (0))) M := by
  refine Ev.run 1 fd_e191 (i' := 503) (ls' := [fx_f 71, fx_f 0, fx_f 56, .inl (x3)]) (st' := [.inl (0)]) (M1 := M) rfl ?_
  exact Ev.ret2 fd_e191 rfl rfl (by decide)
set_option maxRecDepth 8000 in
theorem r191_504 {X : fx_Sc} {M M' : fx_M} {r : Option fx_V} {x3 z : Int} {M1 : fx_M} (hc : Ev X 32 0 [fx_f 0, fx_u] [] M (some (.inl z)) M1) (k : Ev X 191 506 [fx_f 71, fx_f 0, fx_f 56, .inl (x3)] [.inl (z)] M1 r M') : Ev X 191 504 [fx_f 71, fx_f 0, fx_f 56, .inl (x3)] [] M r M' := by
  refine Ev.run 1 fd_e191 (i' := 505) (ls' := [fx_f 71, fx_f 0, fx_f 56, .inl (x3)]) (st' := [fx_f 0]) (M1 := M) rfl ?_
  refine Ev.callV (vs := [fx_f 0]) (rest := []) (r1 := (some (.inl z))) fd_e191 rfl rfl rfl (Nat.le_of_ble_eq_true rfl) (Nat.le_of_ble_eq_true rfl) rfl hc ?_
  exact k
set_option maxRecDepth 8000 in
theorem r191_506 {X : fx_Sc} {M M' : fx_M} {r : Option fx_V} {x3 s0 z : Int} {M1 : fx_M} (hc : Ev X 177 0 [fx_f 56, fx_u] [] M (some (.inl z)) M1) (k : Ev X 191 508 [fx_f 71, fx_f 0, fx_f 56, .inl (x3)] [.inl (z), .inl (s0)] M1 r M') : Ev X 191 506 [fx_f 71, fx_f 0, fx_f 56, .inl (x3)] [.inl (s0)] M r M' := by
  refine Ev.run 1 fd_e191 (i' := 507) (ls' := [fx_f 71, fx_f 0, fx_f 56, .inl (x3)]) (st' := [fx_f 56, .inl (s0)]) (M1 := M) rfl ?_
  refine Ev.callV (vs := [fx_f 56]) (rest := [.inl (s0)]) (r1 := (some (.inl z))) fd_e191 rfl rfl rfl (Nat.le_of_ble_eq_true rfl) (Nat.le_of_ble_eq_true rfl) rfl hc ?_
  exact k
set_option maxRecDepth 8000 in
theorem r191_508T {X : fx_Sc} {M M' : fx_M} {r : Option fx_V} {x3 s0 s1 : Int} (g : (-2147483648 ≤ s0 ∧ s0 < 2147483648) ∧ (-2147483648 ≤ s1 ∧ s1 < 2147483648)) (h : s0 = s1) (k : Ev X 191 559 [fx_f 71, fx_f 0, fx_f 56, .inl (x3)] [] M r M') : Ev X 191 508 [fx_f 71, fx_f 0, fx_f 56, .inl (x3)] [.inl (s1), .inl (s0)] M r M' := by
  refine Ev.icT fd_e191 rfl g.1 g.2 (decide_eq_true h) ?_
  exact k
set_option maxRecDepth 8000 in
theorem r191_508F {X : fx_Sc} {M M' : fx_M} {r : Option fx_V} {x3 s0 s1 : Int} (g : (-2147483648 ≤ s0 ∧ s0 < 2147483648) ∧ (-2147483648 ≤ s1 ∧ s1 < 2147483648)) (h : s0 ≠ s1) (k : Ev X 191 509 [fx_f 71, fx_f 0, fx_f 56, .inl (x3)] [] M r M') : Ev X 191 508 [fx_f 71, fx_f 0, fx_f 56, .inl (x3)] [.inl (s1), .inl (s0)] M r M' := by
  refine Ev.icF fd_e191 rfl g.1 g.2 (decide_eq_false h) ?_
  exact k
set_option maxRecDepth 8000 in
theorem r191_509 {X : fx_Sc} {M : fx_M} {x3 : Int} : Ev X 191 509 [fx_f 71, fx_f 0, fx_f 56, .inl (x3)] [] M (some (.inl (0))) M := by
  refine Ev.run 1 fd_e191 (i' := 510) (ls' := [fx_f 71, fx_f 0, fx_f 56, .inl (x3)]) (st' := [.inl (0)]) (M1 := M) rfl ?_
  exact Ev.ret2 fd_e191 rfl rfl (by decide)
set_option maxRecDepth 8000 in
theorem r191_511 {X : fx_Sc} {M M' : fx_M} {r : Option fx_V} {x3 z : Int} {M1 : fx_M} (hc : Ev X 33 0 [fx_f 0] [] M (some (.inl z)) M1) (k : Ev X 191 513 [fx_f 71, fx_f 0, fx_f 56, .inl (x3)] [.inl (z)] M1 r M') : Ev X 191 511 [fx_f 71, fx_f 0, fx_f 56, .inl (x3)] [] M r M' := by
  refine Ev.run 1 fd_e191 (i' := 512) (ls' := [fx_f 71, fx_f 0, fx_f 56, .inl (x3)]) (st' := [fx_f 0]) (M1 := M) rfl ?_
  refine Ev.callV (vs := [fx_f 0]) (rest := []) (r1 := (some (.inl z))) fd_e191 rfl rfl rfl (Nat.le_of_ble_eq_true rfl) (Nat.le_of_ble_eq_true rfl) rfl hc ?_
  exact k
set_option maxRecDepth 8000 in
theorem r191_513 {X : fx_Sc} {M M' : fx_M} {r : Option fx_V} {x3 s0 z : Int} {M1 : fx_M} (hc : Ev X 178 0 [fx_f 56, fx_u] [] M (some (.inl z)) M1) (k : Ev X 191 515 [fx_f 71, fx_f 0, fx_f 56, .inl (x3)] [.inl (z), .inl (s0)] M1 r M') : Ev X 191 513 [fx_f 71, fx_f 0, fx_f 56, .inl (x3)] [.inl (s0)] M r M' := by
  refine Ev.run 1 fd_e191 (i' := 514) (ls' := [fx_f 71, fx_f 0, fx_f 56, .inl (x3)]) (st' := [fx_f 56, .inl (s0)]) (M1 := M) rfl ?_
  refine Ev.callV (vs := [fx_f 56]) (rest := [.inl (s0)]) (r1 := (some (.inl z))) fd_e191 rfl rfl rfl (Nat.le_of_ble_eq_true rfl) (Nat.le_of_ble_eq_true rfl) rfl hc ?_
  exact k
set_option maxRecDepth 8000 in
theorem r191_515T {X : fx_Sc} {M M' : fx_M} {r : Option fx_V} {x3 s0 s1 : Int} (g : (-2147483648 ≤ s0 ∧ s0 < 2147483648) ∧ (-2147483648 ≤ s1 ∧ s1 < 2147483648)) (h : s0 = s1) (k : Ev X 191 559 [fx_f 71, fx_f 0, fx_f 56, .inl (x3)] [] M r M') : Ev X 191 515 [fx_f 71, fx_f 0, fx_f 56, .inl (x3)] [.inl (s1), .inl (s0)] M r M' := by
  refine Ev.icT fd_e191 rfl g.1 g.2 (decide_eq_true h) ?_
  exact k
set_option maxRecDepth 8000 in
theorem r191_515F {X : fx_Sc} {M M' : fx_M} {r : Option fx_V} {x3 s0 s1 : Int} (g : (-2147483648 ≤ s0 ∧ s0 < 2147483648) ∧ (-2147483648 ≤ s1 ∧ s1 < 2147483648)) (h : s0 ≠ s1) (k : Ev X 191 516 [fx_f 71, fx_f 0, fx_f 56, .inl (x3)] [] M r M') : Ev X 191 515 [fx_f 71, fx_f 0, fx_f 56, .inl (x3)] [.inl (s1), .inl (s0)] M r M' := by
  refine Ev.icF fd_e191 rfl g.1 g.2 (decide_eq_false h) ?_
  exact k
set_option maxRecDepth 8000 in
theorem r191_516 {X : fx_Sc} {M : fx_M} {x3 : Int} : Ev X 191 516 [fx_f 71, fx_f 0, fx_f 56, .inl (x3)] [] M (some (.inl (0))) M := by
  refine Ev.run 1 fd_e191 (i' := 517) (ls' := [fx_f 71, fx_f 0, fx_f 56, .inl (x3)]) (st' := [.inl (0)]) (M1 := M) rfl ?_
  exact Ev.ret2 fd_e191 rfl rfl (by decide)
set_option maxRecDepth 8000 in
theorem r191_518 {X : fx_Sc} {M M' : fx_M} {r : Option fx_V} {x3 z : Int} {M1 : fx_M} (hc : Ev X 34 0 [fx_f 0] [] M (some (.inl z)) M1) (k : Ev X 191 520 [fx_f 71, fx_f 0, fx_f 56, .inl (x3)] [.inl (z)] M1 r M') : Ev X 191 518 [fx_f 71, fx_f 0, fx_f 56, .inl (x3)] [] M r M' := by
  refine Ev.run 1 fd_e191 (i' := 519) (ls' := [fx_f 71, fx_f 0, fx_f 56, .inl (x3)]) (st' := [fx_f 0]) (M1 := M) rfl ?_
  refine Ev.callV (vs := [fx_f 0]) (rest := []) (r1 := (some (.inl z))) fd_e191 rfl rfl rfl (Nat.le_of_ble_eq_true rfl) (Nat.le_of_ble_eq_true rfl) rfl hc ?_
  exact k
set_option maxRecDepth 8000 in
theorem r191_520 {X : fx_Sc} {M M' : fx_M} {r : Option fx_V} {x3 s0 z : Int} {M1 : fx_M} (hc : Ev X 179 0 [fx_f 56, fx_u] [] M (some (.inl z)) M1) (k : Ev X 191 522 [fx_f 71, fx_f 0, fx_f 56, .inl (x3)] [.inl (z), .inl (s0)] M1 r M') : Ev X 191 520 [fx_f 71, fx_f 0, fx_f 56, .inl (x3)] [.inl (s0)] M r M' := by
  refine Ev.run 1 fd_e191 (i' := 521) (ls' := [fx_f 71, fx_f 0, fx_f 56, .inl (x3)]) (st' := [fx_f 56, .inl (s0)]) (M1 := M) rfl ?_
  refine Ev.callV (vs := [fx_f 56]) (rest := [.inl (s0)]) (r1 := (some (.inl z))) fd_e191 rfl rfl rfl (Nat.le_of_ble_eq_true rfl) (Nat.le_of_ble_eq_true rfl) rfl hc ?_
  exact k
set_option maxRecDepth 8000 in
theorem r191_522T {X : fx_Sc} {M M' : fx_M} {r : Option fx_V} {x3 s0 s1 : Int} (g : (-2147483648 ≤ s0 ∧ s0 < 2147483648) ∧ (-2147483648 ≤ s1 ∧ s1 < 2147483648)) (h : s0 = s1) (k : Ev X 191 559 [fx_f 71, fx_f 0, fx_f 56, .inl (x3)] [] M r M') : Ev X 191 522 [fx_f 71, fx_f 0, fx_f 56, .inl (x3)] [.inl (s1), .inl (s0)] M r M' := by
  refine Ev.icT fd_e191 rfl g.1 g.2 (decide_eq_true h) ?_
  exact k
set_option maxRecDepth 8000 in
theorem r191_522F {X : fx_Sc} {M M' : fx_M} {r : Option fx_V} {x3 s0 s1 : Int} (g : (-2147483648 ≤ s0 ∧ s0 < 2147483648) ∧ (-2147483648 ≤ s1 ∧ s1 < 2147483648)) (h : s0 ≠ s1) (k : Ev X 191 523 [fx_f 71, fx_f 0, fx_f 56, .inl (x3)] [] M r M') : Ev X 191 522 [fx_f 71, fx_f 0, fx_f 56, .inl (x3)] [.inl (s1), .inl (s0)] M r M' := by
  refine Ev.icF fd_e191 rfl g.1 g.2 (decide_eq_false h) ?_
  exact k
set_option maxRecDepth 8000 in
theorem r191_523 {X : fx_Sc} {M : fx_M} {x3 : Int} : Ev X 191 523 [fx_f 71, fx_f 0, fx_f 56, .inl (x3)] [] M (some (.inl (0))) M := by
  refine Ev.run 1 fd_e191 (i' := 524) (ls' := [fx_f 71, fx_f 0, fx_f 56, .inl (x3)]) (st' := [.inl (0)]) (M1 := M) rfl ?_
  exact Ev.ret2 fd_e191 rfl rfl (by decide)
set_option maxRecDepth 8000 in
theorem r191_525 {X : fx_Sc} {M M' : fx_M} {r : Option fx_V} {x3 z : Int} {M1 : fx_M} (hX : X.1 < 2147483648) (g : (0 ≤ (x3 + 1) ∧ (x3 + 1) < (X.1 : Int))) (hc : Ev X 35 0 [fx_f 0, .inl ((X.2 ((x3 + 1)).toNat))] [] M (some (.inl z)) M1) (k : Ev X 191 532 [fx_f 71, fx_f 0, fx_f 56, .inl (x3)] [.inl (z)] M1 r M') : Ev X 191 525 [fx_f 71, fx_f 0, fx_f 56, .inl (x3)] [] M r M' := by
  refine Ev.run 5 fd_e191 (i' := 530) (ls' := [fx_f 71, fx_f 0, fx_f 56, .inl (x3)]) (st' := [.inl ((x3 + 1)), fx_f 71, fx_f 0]) (M1 := M) rfl ?_
  refine Ev.xald fd_e191 rfl hX g ?_
  refine Ev.callV (vs := [fx_f 0, .inl ((X.2 ((x3 + 1)).toNat))]) (rest := []) (r1 := (some (.inl z))) fd_e191 rfl rfl rfl (Nat.le_of_ble_eq_true rfl) (Nat.le_of_ble_eq_true rfl) rfl hc ?_
  exact k
set_option maxRecDepth 8000 in
theorem r191_532 {X : fx_Sc} {M M' : fx_M} {r : Option fx_V} {x3 s0 z : Int} {M1 : fx_M} (hX : X.1 < 2147483648) (g : (0 ≤ (x3 + 1) ∧ (x3 + 1) < (X.1 : Int))) (hc : Ev X 180 0 [fx_f 56, .inl ((X.2 ((x3 + 1)).toNat)), fx_u] [] M (some (.inl z)) M1) (k : Ev X 191 539 [fx_f 71, fx_f 0, fx_f 56, .inl (x3)] [.inl (z), .inl (s0)] M1 r M') : Ev X 191 532 [fx_f 71, fx_f 0, fx_f 56, .inl (x3)] [.inl (s0)] M r M' := by
  refine Ev.run 5 fd_e191 (i' := 537) (ls' := [fx_f 71, fx_f 0, fx_f 56, .inl (x3)]) (st' := [.inl ((x3 + 1)), fx_f 71, fx_f 56, .inl (s0)]) (M1 := M) rfl ?_
  refine Ev.xald fd_e191 rfl hX g ?_
  refine Ev.callV (vs := [fx_f 56, .inl ((X.2 ((x3 + 1)).toNat))]) (rest := [.inl (s0)]) (r1 := (some (.inl z))) fd_e191 rfl rfl rfl (Nat.le_of_ble_eq_true rfl) (Nat.le_of_ble_eq_true rfl) rfl hc ?_
  exact k
set_option maxRecDepth 8000 in
theorem r191_539T {X : fx_Sc} {M M' : fx_M} {r : Option fx_V} {x3 s0 s1 : Int} (g : (-2147483648 ≤ s0 ∧ s0 < 2147483648) ∧ (-2147483648 ≤ s1 ∧ s1 < 2147483648)) (h : s0 = s1) (k : Ev X 191 559 [fx_f 71, fx_f 0, fx_f 56, .inl (x3)] [] M r M') : Ev X 191 539 [fx_f 71, fx_f 0, fx_f 56, .inl (x3)] [.inl (s1), .inl (s0)] M r M' := by
  refine Ev.icT fd_e191 rfl g.1 g.2 (decide_eq_true h) ?_
  exact k
set_option maxRecDepth 8000 in
theorem r191_539F {X : fx_Sc} {M M' : fx_M} {r : Option fx_V} {x3 s0 s1 : Int} (g : (-2147483648 ≤ s0 ∧ s0 < 2147483648) ∧ (-2147483648 ≤ s1 ∧ s1 < 2147483648)) (h : s0 ≠ s1) (k : Ev X 191 540 [fx_f 71, fx_f 0, fx_f 56, .inl (x3)] [] M r M') : Ev X 191 539 [fx_f 71, fx_f 0, fx_f 56, .inl (x3)] [.inl (s1), .inl (s0)] M r M' := by
  refine Ev.icF fd_e191 rfl g.1 g.2 (decide_eq_false h) ?_
  exact k
set_option maxRecDepth 8000 in
theorem r191_540 {X : fx_Sc} {M : fx_M} {x3 : Int} : Ev X 191 540 [fx_f 71, fx_f 0, fx_f 56, .inl (x3)] [] M (some (.inl (0))) M := by
  refine Ev.run 1 fd_e191 (i' := 541) (ls' := [fx_f 71, fx_f 0, fx_f 56, .inl (x3)]) (st' := [.inl (0)]) (M1 := M) rfl ?_
  exact Ev.ret2 fd_e191 rfl rfl (by decide)
set_option maxRecDepth 8000 in
theorem r191_542 {X : fx_Sc} {M M' : fx_M} {r : Option fx_V} {x3 z : Int} {M1 : fx_M} (hX : X.1 < 2147483648) (g : (0 ≤ (x3 + 1) ∧ (x3 + 1) < (X.1 : Int))) (hc : Ev X 37 0 [fx_f 0, .inl ((X.2 ((x3 + 1)).toNat))] [] M (some (.inl z)) M1) (k : Ev X 191 549 [fx_f 71, fx_f 0, fx_f 56, .inl (x3)] [.inl (z)] M1 r M') : Ev X 191 542 [fx_f 71, fx_f 0, fx_f 56, .inl (x3)] [] M r M' := by
  refine Ev.run 5 fd_e191 (i' := 547) (ls' := [fx_f 71, fx_f 0, fx_f 56, .inl (x3)]) (st' := [.inl ((x3 + 1)), fx_f 71, fx_f 0]) (M1 := M) rfl ?_
  refine Ev.xald fd_e191 rfl hX g ?_
  refine Ev.callV (vs := [fx_f 0, .inl ((X.2 ((x3 + 1)).toNat))]) (rest := []) (r1 := (some (.inl z))) fd_e191 rfl rfl rfl (Nat.le_of_ble_eq_true rfl) (Nat.le_of_ble_eq_true rfl) rfl hc ?_
  exact k
set_option maxRecDepth 8000 in
theorem r191_549 {X : fx_Sc} {M M' : fx_M} {r : Option fx_V} {x3 s0 z : Int} {M1 : fx_M} (hX : X.1 < 2147483648) (g : (0 ≤ (x3 + 1) ∧ (x3 + 1) < (X.1 : Int))) (hc : Ev X 181 0 [fx_f 56, .inl ((X.2 ((x3 + 1)).toNat)), fx_u] [] M (some (.inl z)) M1) (k : Ev X 191 556 [fx_f 71, fx_f 0, fx_f 56, .inl (x3)] [.inl (z), .inl (s0)] M1 r M') : Ev X 191 549 [fx_f 71, fx_f 0, fx_f 56, .inl (x3)] [.inl (s0)] M r M' := by
  refine Ev.run 5 fd_e191 (i' := 554) (ls' := [fx_f 71, fx_f 0, fx_f 56, .inl (x3)]) (st' := [.inl ((x3 + 1)), fx_f 71, fx_f 56, .inl (s0)]) (M1 := M) rfl ?_
  refine Ev.xald fd_e191 rfl hX g ?_
  refine Ev.callV (vs := [fx_f 56, .inl ((X.2 ((x3 + 1)).toNat))]) (rest := [.inl (s0)]) (r1 := (some (.inl z))) fd_e191 rfl rfl rfl (Nat.le_of_ble_eq_true rfl) (Nat.le_of_ble_eq_true rfl) rfl hc ?_
  exact k
set_option maxRecDepth 8000 in
theorem r191_556T {X : fx_Sc} {M M' : fx_M} {r : Option fx_V} {x3 s0 s1 : Int} (g : (-2147483648 ≤ s0 ∧ s0 < 2147483648) ∧ (-2147483648 ≤ s1 ∧ s1 < 2147483648)) (h : s0 = s1) (k : Ev X 191 559 [fx_f 71, fx_f 0, fx_f 56, .inl (x3)] [] M r M') : Ev X 191 556 [fx_f 71, fx_f 0, fx_f 56, .inl (x3)] [.inl (s1), .inl (s0)] M r M' := by
  refine Ev.icT fd_e191 rfl g.1 g.2 (decide_eq_true h) ?_
  exact k
set_option maxRecDepth 8000 in
theorem r191_556F {X : fx_Sc} {M M' : fx_M} {r : Option fx_V} {x3 s0 s1 : Int} (g : (-2147483648 ≤ s0 ∧ s0 < 2147483648) ∧ (-2147483648 ≤ s1 ∧ s1 < 2147483648)) (h : s0 ≠ s1) (k : Ev X 191 557 [fx_f 71, fx_f 0, fx_f 56, .inl (x3)] [] M r M') : Ev X 191 556 [fx_f 71, fx_f 0, fx_f 56, .inl (x3)] [.inl (s1), .inl (s0)] M r M' := by
  refine Ev.icF fd_e191 rfl g.1 g.2 (decide_eq_false h) ?_
  exact k
set_option maxRecDepth 8000 in
theorem r191_557 {X : fx_Sc} {M : fx_M} {x3 : Int} : Ev X 191 557 [fx_f 71, fx_f 0, fx_f 56, .inl (x3)] [] M (some (.inl (0))) M := by
  refine Ev.run 1 fd_e191 (i' := 558) (ls' := [fx_f 71, fx_f 0, fx_f 56, .inl (x3)]) (st' := [.inl (0)]) (M1 := M) rfl ?_
  exact Ev.ret2 fd_e191 rfl rfl (by decide)
set_option maxRecDepth 8000 in
theorem r191_559 {X : fx_Sc} {M M' : fx_M} {r : Option fx_V} {x3 : Int} (k : Ev X 191 2 [fx_f 71, fx_f 0, fx_f 56, .inl ((x3 + 4))] [] M r M') : Ev X 191 559 [fx_f 71, fx_f 0, fx_f 56, .inl (x3)] [] M r M' := by
  refine Ev.run 2 fd_e191 (i' := 2) (ls' := [fx_f 71, fx_f 0, fx_f 56, .inl ((x3 + 4))]) (st' := []) (M1 := M) rfl ?_
  exact k
set_option maxRecDepth 8000 in
theorem r191_561 {X : fx_Sc} {M : fx_M} {x3 : Int} : Ev X 191 561 [fx_f 71, fx_f 0, fx_f 56, .inl (x3)] [] M (some (.inl (1))) M := by
  refine Ev.run 1 fd_e191 (i' := 562) (ls' := [fx_f 71, fx_f 0, fx_f 56, .inl (x3)]) (st' := [.inl (1)]) (M1 := M) rfl ?_
  exact Ev.ret2 fd_e191 rfl rfl (by decide)

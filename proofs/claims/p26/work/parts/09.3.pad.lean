-- 71: FoldedStrips$Pad.length()I
theorem fd_e71 : fd_C 71 = fd_c71 := rfl
theorem r71_0 {X : fx_Sc} {M : fx_M} : Ev X 71 0 [fx_f 17] [] M (some (.inl ((M 17 1)))) M := by
  refine Ev.run 2 fd_e71 (i' := 2) (ls' := [fx_f 17]) (st' := [.inl ((M 17 1))]) (M1 := M) rfl ?_
  exact Ev.ret1 fd_e71 rfl rfl

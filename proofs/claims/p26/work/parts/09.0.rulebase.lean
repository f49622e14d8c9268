section EVR2
variable {X : fx_Sc} {j i : Nat} {ls : List fx_V} {M : fx_M} {c : List Instr}
theorem Ev.ret1 {x : Int} (hC : fd_C j = c) (hi : c[i]? = some .ireturn) (h : (fd_G j).2.2.1 = 1) : Ev X j i ls [.inl x] M (some (.inl x)) M := Ev.ret hC hi (by simp [fx_ret, h])
theorem Ev.ret2 {x : Int} (hC : fd_C j = c) (hi : c[i]? = some .ireturn) (h : (fd_G j).2.2.1 = 2) (hx : x = 0 ∨ x = 1) : Ev X j i ls [.inl x] M (some (.inl x)) M := Ev.ret hC hi (by simp [fx_ret, h, hx])
theorem Ev.ret3 {x : Int} (hC : fd_C j = c) (hi : c[i]? = some .ireturn) (h : (fd_G j).2.2.1 = 3) (hx : 0 ≤ x ∧ x < 65536) : Ev X j i ls [.inl x] M (some (.inl x)) M := Ev.ret hC hi (by simp [fx_ret, h, hx])
theorem Ev.ret4 {a : Nat} (hC : fd_C j = c) (hi : c[i]? = some .areturn) (h : (fd_G j).2.2.1 = 4) : Ev X j i ls [fx_f a] M (some (fx_f a)) M := by
  refine ⟨1, ?_⟩
  unfold fx_ex
  rw [hC, hi]
  simp only
  rw [if_pos h]
theorem fd_rcvS {a : Nat} {vs : List fx_V} (h : fd_isS a) : fx_rcv fd_SH (some 5) (fx_f a :: vs) = true := by simp [fx_rcv, h.1]
end EVR2
theorem fd_is1 : fd_isS 1 := ⟨rfl, rfl, rfl, rfl⟩
theorem fd_is5 : fd_isS 5 := ⟨rfl, rfl, rfl, rfl⟩
theorem fd_is21 : fd_isS 21 := ⟨rfl, rfl, rfl, rfl⟩
theorem fd_is25 : fd_isS 25 := ⟨rfl, rfl, rfl, rfl⟩
theorem fd_is29 : fd_isS 29 := ⟨rfl, rfl, rfl, rfl⟩
theorem fd_is33 : fd_isS 33 := ⟨rfl, rfl, rfl, rfl⟩
theorem fd_is37 : fd_isS 37 := ⟨rfl, rfl, rfl, rfl⟩
theorem fd_is41 : fd_isS 41 := ⟨rfl, rfl, rfl, rfl⟩
theorem fd_is48 : fd_isS 48 := ⟨rfl, rfl, rfl, rfl⟩
theorem fd_is52 : fd_isS 52 := ⟨rfl, rfl, rfl, rfl⟩

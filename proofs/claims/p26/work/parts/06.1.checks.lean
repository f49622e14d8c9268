/-! a long method's word: its bytes compared as a list -/
def fd_gc (c : Jvm.Cond) : Option (MethodName × List UInt8 × Nat × Option FieldType) := match c with
  | .code y b m r => some (y, b.data.toList, m, r)
  | _ => none
theorem fd_memC {y : MethodName} {b : ByteArray} {m : Nat} {r : Option FieldType} (i : Nat) (h : (lw_tbl[i]?).bind fd_gc = some (y, b.data.toList, m, r)) (hg : (lw_tbl[i]?).all goodWord = true) : Jvm.Cond.code y b m r ∈ fd_TG := by
  cases hc : lw_tbl[i]? with
  | none => rw [hc] at h; cases h
  | some c =>
    rw [hc] at h hg
    have h2 : fd_gc c = some (y, b.data.toList, m, r) := h
    have hg2 : goodWord c = true := hg
    have e : c = .code y b m r := by
      unfold fd_gc at h2
      split at h2
      next y' b' m' r' =>
        simp only [Option.some.injEq, Prod.mk.injEq] at h2
        obtain ⟨rfl, hb, rfl, rfl⟩ := h2
        have hb2 : b'.data = b.data := Array.ext' hb
        have hb3 : b' = b := by
          cases b'
          cases b
          exact congrArg ByteArray.mk hb2
        rw [hb3]
      next => cases h2
    subst e
    exact List.mem_filter.mpr ⟨List.mem_of_getElem? hc, hg2⟩
theorem fd_m193 : fx_MF fd_TG fd_cl fd_G fd_y fd_b fd_PC 193 := ⟨by decide +kernel, rfl, fd_memC 461 (by decide +kernel) (by decide +kernel), fd_mem 8 (by decide +kernel), ⟨by decide +kernel, by decide +kernel⟩, ⟨by decide +kernel, fd_mem 460 (by decide +kernel)⟩⟩
theorem fd_m194 : fx_MF fd_TG fd_cl fd_G fd_y fd_b fd_PC 194 := ⟨by decide +kernel, rfl, fd_memC 483 (by decide +kernel) (by decide +kernel), fd_mem 8 (by decide +kernel), ⟨by decide +kernel, by decide +kernel⟩, ⟨by decide +kernel, fd_mem 482 (by decide +kernel)⟩⟩
theorem fd_m195 : fx_MF fd_TG fd_cl fd_G fd_y fd_b fd_PC 195 := ⟨by decide +kernel, rfl, fd_memC 466 (by decide +kernel) (by decide +kernel), fd_mem 8 (by decide +kernel), ⟨by decide +kernel, by decide +kernel⟩, ⟨by decide +kernel, fd_mem 465 (by decide +kernel)⟩⟩
theorem fd_m196 : fx_MF fd_TG fd_cl fd_G fd_y fd_b fd_PC 196 := ⟨by decide +kernel, rfl, fd_memC 486 (by decide +kernel) (by decide +kernel), fd_mem 8 (by decide +kernel), ⟨by decide +kernel, by decide +kernel⟩, ⟨by decide +kernel, fd_mem 485 (by decide +kernel)⟩⟩
theorem fd_m197 : fx_MF fd_TG fd_cl fd_G fd_y fd_b fd_PC 197 := ⟨by decide +kernel, rfl, fd_memC 532 (by decide +kernel) (by decide +kernel), fd_mem 8 (by decide +kernel), ⟨by decide +kernel, by decide +kernel⟩, ⟨by decide +kernel, fd_mem 531 (by decide +kernel)⟩⟩

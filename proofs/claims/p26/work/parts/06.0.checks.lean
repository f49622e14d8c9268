/-! The data hold: each by the kernel -/
theorem fd_mem {w : Jvm.Cond} (i : Nat) (h : lw_tbl[i]? = some w ∧ goodWord w = true) : w ∈ fd_TG := List.mem_filter.mpr ⟨List.mem_of_getElem? h.1, h.2⟩
theorem fd_good : ∀ w ∈ fd_TG, goodWord w = true := fun w hw => (List.mem_filter.mp hw).2
def fd_chk (CT CL : List (Nat × Int)) (FT PT : List (Nat × Nat × Nat)) (LT : List (Nat × Nat)) (pcs : List Nat) (rf rl : Nat) (b : ByteArray) : Nat → List Instr → List (Instr × Nat) → Bool
  | i, mm :: r, ol :: r' => decide (decode b (pcs.getD i 0) = .ok ol) && decide (pcs.getD (i + 1) 0 = pcs.getD i 0 + ol.2) && fx_nrm CT CL FT PT LT pcs fd_G fd_RO rf rl (pcs.getD i 0) ol.2 mm ol.1 && fd_chk CT CL FT PT LT pcs rf rl b (i + 1) r r'
  | _, [], [] => true
  | _, _, _ => false
theorem fd_chk_get {CT CL : List (Nat × Int)} {FT PT : List (Nat × Nat × Nat)} {LT : List (Nat × Nat)} {pcs : List Nat} {rf rl : Nat} {b : ByteArray} : ∀ {cs : List Instr} {os : List (Instr × Nat)} {i : Nat}, fd_chk CT CL FT PT LT pcs rf rl b i cs os = true → ∀ {k : Nat} {mm : Instr}, cs[k]? = some mm →
    ∃ (o : Instr) (len : Nat), decode b (pcs.getD (i + k) 0) = .ok (o, len) ∧ pcs.getD (i + k + 1) 0 = pcs.getD (i + k) 0 + len ∧ fx_nrm CT CL FT PT LT pcs fd_G fd_RO rf rl (pcs.getD (i + k) 0) len mm o = true
  | [], _, _, _, k, mm, hk => by simp at hk
  | _ :: _, [], _, h, _, _, _ => by simp [fd_chk] at h
  | m0 :: cs, (o, len) :: os, i, h, k, mm, hk => by
    simp only [fd_chk, Bool.and_eq_true, decide_eq_true_eq] at h
    obtain ⟨⟨⟨h1, h2⟩, h3⟩, h4⟩ := h
    cases k with
    | zero =>
      simp only [List.getElem?_cons_zero, Option.some.injEq] at hk
      subst hk
      exact ⟨o, len, h1, h2, h3⟩
    | succ k =>
      simp only [List.getElem?_cons_succ] at hk
      have := fd_chk_get h4 hk
      rwa [show i + 1 + k = i + (k + 1) by omega] at this
theorem fd_u0 : ∀ w ∈ u_ws fd_R0 fd_T0 6, w ∈ fd_TG := by
  have h1 : ∀ w ∈ u_ws fd_R0 fd_T0 6, w ∈ lw_tbl := by decide +kernel
  have h2 : ∀ w ∈ u_ws fd_R0 fd_T0 6, goodWord w = true := by decide +kernel
  exact fun w hw => List.mem_filter.mpr ⟨h1 w hw, h2 w hw⟩
theorem fd_t0 : ∀ k, k < 6 → parseFieldDescriptor (fd_T0 k).2.2.1 = some (fd_ty0 k) := by decide +kernel
theorem fd_n0 : ∀ a, a < 6 → ∀ b, b < 6 → a ≠ b → (fd_T0 a).2.1 ≠ (fd_T0 b).2.1 := by decide +kernel
theorem fd_u1 : ∀ w ∈ u_ws fd_R1 fd_T1 3, w ∈ fd_TG := by
  have h1 : ∀ w ∈ u_ws fd_R1 fd_T1 3, w ∈ lw_tbl := by decide +kernel
  have h2 : ∀ w ∈ u_ws fd_R1 fd_T1 3, goodWord w = true := by decide +kernel
  exact fun w hw => List.mem_filter.mpr ⟨h1 w hw, h2 w hw⟩
theorem fd_t1 : ∀ k, k < 3 → parseFieldDescriptor (fd_T1 k).2.2.1 = some (fd_ty1 k) := by decide +kernel
theorem fd_n1 : ∀ a, a < 3 → ∀ b, b < 3 → a ≠ b → (fd_T1 a).2.1 ≠ (fd_T1 b).2.1 := by decide +kernel
theorem fd_u2 : ∀ w ∈ u_ws fd_R2 fd_T2 8, w ∈ fd_TG := by
  have h1 : ∀ w ∈ u_ws fd_R2 fd_T2 8, w ∈ lw_tbl := by decide +kernel
  have h2 : ∀ w ∈ u_ws fd_R2 fd_T2 8, goodWord w = true := by decide +kernel
  exact fun w hw => List.mem_filter.mpr ⟨h1 w hw, h2 w hw⟩
theorem fd_t2 : ∀ k, k < 8 → parseFieldDescriptor (fd_T2 k).2.2.1 = some (fd_ty2 k) := by decide +kernel
theorem fd_n2 : ∀ a, a < 8 → ∀ b, b < 8 → a ≠ b → (fd_T2 a).2.1 ≠ (fd_T2 b).2.1 := by decide +kernel
theorem fd_u3 : ∀ w ∈ u_ws fd_R3 fd_T3 2, w ∈ fd_TG := by
  have h1 : ∀ w ∈ u_ws fd_R3 fd_T3 2, w ∈ lw_tbl := by decide +kernel
  have h2 : ∀ w ∈ u_ws fd_R3 fd_T3 2, goodWord w = true := by decide +kernel
  exact fun w hw => List.mem_filter.mpr ⟨h1 w hw, h2 w hw⟩
theorem fd_t3 : ∀ k, k < 2 → parseFieldDescriptor (fd_T3 k).2.2.1 = some (fd_ty3 k) := by decide +kernel
theorem fd_n3 : ∀ a, a < 2 → ∀ b, b < 2 → a ≠ b → (fd_T3 a).2.1 ≠ (fd_T3 b).2.1 := by decide +kernel
theorem fd_u4 : ∀ w ∈ u_ws fd_R4 fd_T4 2, w ∈ fd_TG := by
  have h1 : ∀ w ∈ u_ws fd_R4 fd_T4 2, w ∈ lw_tbl := by decide +kernel
  have h2 : ∀ w ∈ u_ws fd_R4 fd_T4 2, goodWord w = true := by decide +kernel
  exact fun w hw => List.mem_filter.mpr ⟨h1 w hw, h2 w hw⟩
theorem fd_t4 : ∀ k, k < 2 → parseFieldDescriptor (fd_T4 k).2.2.1 = some (fd_ty4 k) := by decide +kernel
theorem fd_n4 : ∀ a, a < 2 → ∀ b, b < 2 → a ≠ b → (fd_T4 a).2.1 ≠ (fd_T4 b).2.1 := by decide +kernel
theorem fd_u5 : ∀ w ∈ u_ws fd_R5 fd_T5 3, w ∈ fd_TG := by
  have h1 : ∀ w ∈ u_ws fd_R5 fd_T5 3, w ∈ lw_tbl := by decide +kernel
  have h2 : ∀ w ∈ u_ws fd_R5 fd_T5 3, goodWord w = true := by decide +kernel
  exact fun w hw => List.mem_filter.mpr ⟨h1 w hw, h2 w hw⟩
theorem fd_t5 : ∀ k, k < 3 → parseFieldDescriptor (fd_T5 k).2.2.1 = some (fd_ty5 k) := by decide +kernel
theorem fd_n5 : ∀ a, a < 3 → ∀ b, b < 3 → a ≠ b → (fd_T5 a).2.1 ≠ (fd_T5 b).2.1 := by decide +kernel
theorem fd_Cl : fx_Cl fd_TG fd_cl := by
  intro ci C T N h
  match ci, h with
  | 0, h => cases h; exact ⟨fd_u0, ⟨fd_ty0, fd_t0⟩, fd_n0⟩
  | 1, h => cases h; exact ⟨fd_u1, ⟨fd_ty1, fd_t1⟩, fd_n1⟩
  | 2, h => cases h; exact ⟨fd_u2, ⟨fd_ty2, fd_t2⟩, fd_n2⟩
  | 3, h => cases h; exact ⟨fd_u3, ⟨fd_ty3, fd_t3⟩, fd_n3⟩
  | 4, h => cases h; exact ⟨fd_u4, ⟨fd_ty4, fd_t4⟩, fd_n4⟩
  | 5, h => cases h; exact ⟨fd_u5, ⟨fd_ty5, fd_t5⟩, fd_n5⟩
  | k + 6, h => simp at h
theorem fd_m1 : fx_MF fd_TG fd_cl fd_G fd_y fd_b fd_PC 1 := ⟨by decide +kernel, rfl, fd_mem 149 (by decide +kernel), fd_mem 9 (by decide +kernel), ⟨by decide +kernel, by decide +kernel⟩, ⟨by decide +kernel, fd_mem 148 (by decide +kernel)⟩⟩
theorem fd_m2 : fx_MF fd_TG fd_cl fd_G fd_y fd_b fd_PC 2 := ⟨by decide +kernel, rfl, fd_mem 510 (by decide +kernel), fd_mem 9 (by decide +kernel), ⟨by decide +kernel, by decide +kernel⟩, ⟨by decide +kernel, fd_mem 509 (by decide +kernel)⟩⟩
theorem fd_m3 : fx_MF fd_TG fd_cl fd_G fd_y fd_b fd_PC 3 := ⟨by decide +kernel, rfl, fd_mem 202 (by decide +kernel), fd_mem 9 (by decide +kernel), ⟨by decide +kernel, by decide +kernel⟩, ⟨by decide +kernel, fd_mem 201 (by decide +kernel)⟩⟩
theorem fd_m4 : fx_MF fd_TG fd_cl fd_G fd_y fd_b fd_PC 4 := ⟨by decide +kernel, rfl, fd_mem 232 (by decide +kernel), fd_mem 9 (by decide +kernel), ⟨by decide +kernel, by decide +kernel⟩, ⟨by decide +kernel, fd_mem 231 (by decide +kernel)⟩⟩
theorem fd_m5 : fx_MF fd_TG fd_cl fd_G fd_y fd_b fd_PC 5 := ⟨by decide +kernel, rfl, fd_mem 156 (by decide +kernel), fd_mem 9 (by decide +kernel), ⟨by decide +kernel, by decide +kernel⟩, ⟨by decide +kernel, fd_mem 155 (by decide +kernel)⟩⟩
theorem fd_m6 : fx_MF fd_TG fd_cl fd_G fd_y fd_b fd_PC 6 := ⟨by decide +kernel, rfl, fd_mem 167 (by decide +kernel), fd_mem 9 (by decide +kernel), ⟨by decide +kernel, by decide +kernel⟩, ⟨by decide +kernel, fd_mem 166 (by decide +kernel)⟩⟩
theorem fd_m7 : fx_MF fd_TG fd_cl fd_G fd_y fd_b fd_PC 7 := ⟨by decide +kernel, rfl, fd_mem 176 (by decide +kernel), fd_mem 9 (by decide +kernel), ⟨by decide +kernel, by decide +kernel⟩, ⟨by decide +kernel, fd_mem 175 (by decide +kernel)⟩⟩
theorem fd_m8 : fx_MF fd_TG fd_cl fd_G fd_y fd_b fd_PC 8 := ⟨by decide +kernel, rfl, fd_mem 552 (by decide +kernel), fd_mem 9 (by decide +kernel), ⟨by decide +kernel, by decide +kernel⟩, ⟨by decide +kernel, fd_mem 550 (by decide +kernel), fd_mem 551 (by decide +kernel), fd_T0, 6, rfl⟩⟩
theorem fd_m9 : fx_MF fd_TG fd_cl fd_G fd_y fd_b fd_PC 9 := ⟨by decide +kernel, rfl, fd_mem 557 (by decide +kernel), fd_mem 9 (by decide +kernel), ⟨by decide +kernel, by decide +kernel⟩, ⟨by decide +kernel, fd_mem 555 (by decide +kernel), fd_mem 556 (by decide +kernel), fd_T0, 6, rfl⟩⟩
theorem fd_m10 : fx_MF fd_TG fd_cl fd_G fd_y fd_b fd_PC 10 := ⟨by decide +kernel, rfl, fd_mem 146 (by decide +kernel), fd_mem 9 (by decide +kernel), ⟨by decide +kernel, by decide +kernel⟩, ⟨by decide +kernel, fd_mem 144 (by decide +kernel), fd_mem 145 (by decide +kernel), fd_T0, 6, rfl⟩⟩
theorem fd_m11 : fx_MF fd_TG fd_cl fd_G fd_y fd_b fd_PC 11 := ⟨by decide +kernel, rfl, fd_mem 565 (by decide +kernel), fd_mem 9 (by decide +kernel), ⟨by decide +kernel, by decide +kernel⟩, ⟨by decide +kernel, fd_mem 563 (by decide +kernel), fd_mem 564 (by decide +kernel), fd_T0, 6, rfl⟩⟩
theorem fd_m12 : fx_MF fd_TG fd_cl fd_G fd_y fd_b fd_PC 12 := ⟨by decide +kernel, rfl, fd_mem 206 (by decide +kernel), fd_mem 9 (by decide +kernel), ⟨by decide +kernel, by decide +kernel⟩, ⟨by decide +kernel, fd_mem 204 (by decide +kernel), fd_mem 205 (by decide +kernel), fd_T0, 6, rfl⟩⟩
theorem fd_m13 : fx_MF fd_TG fd_cl fd_G fd_y fd_b fd_PC 13 := ⟨by decide +kernel, rfl, fd_mem 209 (by decide +kernel), fd_mem 9 (by decide +kernel), ⟨by decide +kernel, by decide +kernel⟩, ⟨by decide +kernel, fd_mem 208 (by decide +kernel)⟩⟩
theorem fd_m14 : fx_MF fd_TG fd_cl fd_G fd_y fd_b fd_PC 14 := ⟨by decide +kernel, rfl, fd_mem 573 (by decide +kernel), fd_mem 9 (by decide +kernel), ⟨by decide +kernel, by decide +kernel⟩, ⟨by decide +kernel, fd_mem 571 (by decide +kernel), fd_mem 572 (by decide +kernel), fd_T0, 6, rfl⟩⟩
theorem fd_m15 : fx_MF fd_TG fd_cl fd_G fd_y fd_b fd_PC 15 := ⟨by decide +kernel, rfl, fd_mem 577 (by decide +kernel), fd_mem 9 (by decide +kernel), ⟨by decide +kernel, by decide +kernel⟩, ⟨by decide +kernel, fd_mem 575 (by decide +kernel), fd_mem 576 (by decide +kernel), fd_T0, 6, rfl⟩⟩
theorem fd_m16 : fx_MF fd_TG fd_cl fd_G fd_y fd_b fd_PC 16 := ⟨by decide +kernel, rfl, fd_mem 470 (by decide +kernel), fd_mem 9 (by decide +kernel), ⟨by decide +kernel, by decide +kernel⟩, ⟨by decide +kernel, fd_mem 468 (by decide +kernel), fd_mem 469 (by decide +kernel), fd_T0, 6, rfl⟩⟩
theorem fd_m17 : fx_MF fd_TG fd_cl fd_G fd_y fd_b fd_PC 17 := ⟨by decide +kernel, rfl, fd_mem 287 (by decide +kernel), fd_mem 9 (by decide +kernel), ⟨by decide +kernel, by decide +kernel⟩, ⟨by decide +kernel, fd_mem 286 (by decide +kernel)⟩⟩
theorem fd_m18 : fx_MF fd_TG fd_cl fd_G fd_y fd_b fd_PC 18 := ⟨by decide +kernel, rfl, fd_mem 266 (by decide +kernel), fd_mem 9 (by decide +kernel), ⟨by decide +kernel, by decide +kernel⟩, ⟨by decide +kernel, fd_mem 265 (by decide +kernel)⟩⟩
theorem fd_m19 : fx_MF fd_TG fd_cl fd_G fd_y fd_b fd_PC 19 := ⟨by decide +kernel, rfl, fd_mem 248 (by decide +kernel), fd_mem 9 (by decide +kernel), ⟨by decide +kernel, by decide +kernel⟩, ⟨by decide +kernel, fd_mem 246 (by decide +kernel), fd_mem 247 (by decide +kernel), fd_T0, 6, rfl⟩⟩
theorem fd_m20 : fx_MF fd_TG fd_cl fd_G fd_y fd_b fd_PC 20 := ⟨by decide +kernel, rfl, fd_mem 490 (by decide +kernel), fd_mem 9 (by decide +kernel), ⟨by decide +kernel, by decide +kernel⟩, ⟨by decide +kernel, fd_mem 488 (by decide +kernel), fd_mem 489 (by decide +kernel), fd_T0, 6, rfl⟩⟩
theorem fd_m21 : fx_MF fd_TG fd_cl fd_G fd_y fd_b fd_PC 21 := ⟨by decide +kernel, rfl, fd_mem 493 (by decide +kernel), fd_mem 9 (by decide +kernel), ⟨by decide +kernel, by decide +kernel⟩, ⟨by decide +kernel, fd_mem 492 (by decide +kernel)⟩⟩
theorem fd_m22 : fx_MF fd_TG fd_cl fd_G fd_y fd_b fd_PC 22 := ⟨by decide +kernel, rfl, fd_mem 507 (by decide +kernel), fd_mem 9 (by decide +kernel), ⟨by decide +kernel, by decide +kernel⟩, ⟨by decide +kernel, fd_mem 505 (by decide +kernel), fd_mem 506 (by decide +kernel), fd_T0, 6, rfl⟩⟩
theorem fd_m23 : fx_MF fd_TG fd_cl fd_G fd_y fd_b fd_PC 23 := ⟨by decide +kernel, rfl, fd_mem 536 (by decide +kernel), fd_mem 9 (by decide +kernel), ⟨by decide +kernel, by decide +kernel⟩, ⟨by decide +kernel, fd_mem 534 (by decide +kernel), fd_mem 535 (by decide +kernel), fd_T0, 6, rfl⟩⟩
theorem fd_m24 : fx_MF fd_TG fd_cl fd_G fd_y fd_b fd_PC 24 := ⟨by decide +kernel, rfl, fd_mem 337 (by decide +kernel), fd_mem 9 (by decide +kernel), ⟨by decide +kernel, by decide +kernel⟩, ⟨by decide +kernel, fd_mem 335 (by decide +kernel), fd_mem 336 (by decide +kernel), fd_T0, 6, rfl⟩⟩
theorem fd_m25 : fx_MF fd_TG fd_cl fd_G fd_y fd_b fd_PC 25 := ⟨by decide +kernel, rfl, fd_mem 363 (by decide +kernel), fd_mem 9 (by decide +kernel), ⟨by decide +kernel, by decide +kernel⟩, ⟨by decide +kernel, fd_mem 362 (by decide +kernel), fd_mem 5 (by decide +kernel), fd_T0, 6, rfl⟩⟩
theorem fd_m26 : fx_MF fd_TG fd_cl fd_G fd_y fd_b fd_PC 26 := ⟨by decide +kernel, rfl, fd_mem 399 (by decide +kernel), fd_mem 9 (by decide +kernel), ⟨by decide +kernel, by decide +kernel⟩, ⟨by decide +kernel, fd_mem 397 (by decide +kernel), fd_mem 398 (by decide +kernel), fd_T0, 6, rfl⟩⟩
theorem fd_m27 : fx_MF fd_TG fd_cl fd_G fd_y fd_b fd_PC 27 := ⟨by decide +kernel, rfl, fd_mem 407 (by decide +kernel), fd_mem 9 (by decide +kernel), ⟨by decide +kernel, by decide +kernel⟩, ⟨by decide +kernel, fd_mem 406 (by decide +kernel), fd_mem 6 (by decide +kernel), fd_T0, 6, rfl⟩⟩
theorem fd_m28 : fx_MF fd_TG fd_cl fd_G fd_y fd_b fd_PC 28 := ⟨by decide +kernel, rfl, fd_mem 416 (by decide +kernel), fd_mem 9 (by decide +kernel), ⟨by decide +kernel, by decide +kernel⟩, ⟨by decide +kernel, fd_mem 414 (by decide +kernel), fd_mem 415 (by decide +kernel), fd_T0, 6, rfl⟩⟩
theorem fd_m29 : fx_MF fd_TG fd_cl fd_G fd_y fd_b fd_PC 29 := ⟨by decide +kernel, rfl, fd_mem 420 (by decide +kernel), fd_mem 9 (by decide +kernel), ⟨by decide +kernel, by decide +kernel⟩, ⟨by decide +kernel, fd_mem 419 (by decide +kernel), fd_mem 7 (by decide +kernel), fd_T0, 6, rfl⟩⟩
theorem fd_m30 : fx_MF fd_TG fd_cl fd_G fd_y fd_b fd_PC 30 := ⟨by decide +kernel, rfl, fd_mem 569 (by decide +kernel), fd_mem 9 (by decide +kernel), ⟨by decide +kernel, by decide +kernel⟩, ⟨by decide +kernel, fd_mem 567 (by decide +kernel), fd_mem 568 (by decide +kernel), fd_T0, 6, rfl⟩⟩
theorem fd_m34 : fx_MF fd_TG fd_cl fd_G fd_y fd_b fd_PC 34 := ⟨by decide +kernel, rfl, fd_mem 428 (by decide +kernel), fd_mem 9 (by decide +kernel), ⟨by decide +kernel, by decide +kernel⟩, ⟨by decide +kernel, fd_mem 426 (by decide +kernel), fd_mem 427 (by decide +kernel), fd_T0, 6, rfl⟩⟩
theorem fd_m35 : fx_MF fd_TG fd_cl fd_G fd_y fd_b fd_PC 35 := ⟨by decide +kernel, rfl, fd_mem 436 (by decide +kernel), fd_mem 9 (by decide +kernel), ⟨by decide +kernel, by decide +kernel⟩, ⟨by decide +kernel, fd_mem 434 (by decide +kernel), fd_mem 435 (by decide +kernel), fd_T0, 6, rfl⟩⟩
theorem fd_m36 : fx_MF fd_TG fd_cl fd_G fd_y fd_b fd_PC 36 := ⟨by decide +kernel, rfl, fd_mem 439 (by decide +kernel), fd_mem 9 (by decide +kernel), ⟨by decide +kernel, by decide +kernel⟩, ⟨by decide +kernel, fd_mem 438 (by decide +kernel)⟩⟩
theorem fd_m37 : fx_MF fd_TG fd_cl fd_G fd_y fd_b fd_PC 37 := ⟨by decide +kernel, rfl, fd_mem 449 (by decide +kernel), fd_mem 9 (by decide +kernel), ⟨by decide +kernel, by decide +kernel⟩, ⟨by decide +kernel, fd_mem 447 (by decide +kernel), fd_mem 448 (by decide +kernel), fd_T0, 6, rfl⟩⟩
theorem fd_m38 : fx_MF fd_TG fd_cl fd_G fd_y fd_b fd_PC 38 := ⟨by decide +kernel, rfl, fd_mem 180 (by decide +kernel), fd_mem 13 (by decide +kernel), ⟨by decide +kernel, by decide +kernel⟩, ⟨by decide +kernel, fd_mem 178 (by decide +kernel), fd_mem 179 (by decide +kernel), fd_T1, 3, rfl⟩⟩
theorem fd_m39 : fx_MF fd_TG fd_cl fd_G fd_y fd_b fd_PC 39 := ⟨by decide +kernel, rfl, fd_mem 359 (by decide +kernel), fd_mem 13 (by decide +kernel), ⟨by decide +kernel, by decide +kernel⟩, ⟨by decide +kernel, fd_mem 357 (by decide +kernel), fd_mem 358 (by decide +kernel), fd_T1, 3, rfl⟩⟩
theorem fd_m40 : fx_MF fd_TG fd_cl fd_G fd_y fd_b fd_PC 40 := ⟨by decide +kernel, rfl, fd_mem 432 (by decide +kernel), fd_mem 13 (by decide +kernel), ⟨by decide +kernel, by decide +kernel⟩, ⟨by decide +kernel, fd_mem 430 (by decide +kernel), fd_mem 431 (by decide +kernel), fd_T1, 3, rfl⟩⟩
theorem fd_m41 : fx_MF fd_TG fd_cl fd_G fd_y fd_b fd_PC 41 := ⟨by decide +kernel, rfl, fd_mem 292 (by decide +kernel), fd_mem 11 (by decide +kernel), ⟨by decide +kernel, by decide +kernel⟩, ⟨by decide +kernel, fd_mem 290 (by decide +kernel), fd_mem 291 (by decide +kernel), fd_T2, 8, rfl⟩⟩
theorem fd_m42 : fx_MF fd_TG fd_cl fd_G fd_y fd_b fd_PC 42 := ⟨by decide +kernel, rfl, fd_mem 300 (by decide +kernel), fd_mem 11 (by decide +kernel), ⟨by decide +kernel, by decide +kernel⟩, ⟨by decide +kernel, fd_mem 299 (by decide +kernel), fd_mem 2 (by decide +kernel), fd_T2, 8, rfl⟩⟩
theorem fd_m43 : fx_MF fd_TG fd_cl fd_G fd_y fd_b fd_PC 43 := ⟨by decide +kernel, rfl, fd_mem 303 (by decide +kernel), fd_mem 11 (by decide +kernel), ⟨by decide +kernel, by decide +kernel⟩, ⟨by decide +kernel, fd_mem 302 (by decide +kernel)⟩⟩
theorem fd_m44 : fx_MF fd_TG fd_cl fd_G fd_y fd_b fd_PC 44 := ⟨by decide +kernel, rfl, fd_mem 307 (by decide +kernel), fd_mem 11 (by decide +kernel), ⟨by decide +kernel, by decide +kernel⟩, ⟨by decide +kernel, fd_mem 306 (by decide +kernel), fd_mem 3 (by decide +kernel), fd_T2, 8, rfl⟩⟩
theorem fd_m45 : fx_MF fd_TG fd_cl fd_G fd_y fd_b fd_PC 45 := ⟨by decide +kernel, rfl, fd_mem 315 (by decide +kernel), fd_mem 11 (by decide +kernel), ⟨by decide +kernel, by decide +kernel⟩, ⟨by decide +kernel, fd_mem 314 (by decide +kernel), fd_mem 4 (by decide +kernel), fd_T2, 8, rfl⟩⟩
theorem fd_m46 : fx_MF fd_TG fd_cl fd_G fd_y fd_b fd_PC 46 := ⟨by decide +kernel, rfl, fd_mem 479 (by decide +kernel), fd_mem 11 (by decide +kernel), ⟨by decide +kernel, by decide +kernel⟩, ⟨by decide +kernel, fd_mem 477 (by decide +kernel), fd_mem 478 (by decide +kernel), fd_T2, 8, rfl⟩⟩
theorem fd_m47 : fx_MF fd_TG fd_cl fd_G fd_y fd_b fd_PC 47 := ⟨by decide +kernel, rfl, fd_mem 325 (by decide +kernel), fd_mem 11 (by decide +kernel), ⟨by decide +kernel, by decide +kernel⟩, ⟨by decide +kernel, fd_mem 323 (by decide +kernel), fd_mem 324 (by decide +kernel), fd_T2, 8, rfl⟩⟩
theorem fd_m48 : fx_MF fd_TG fd_cl fd_G fd_y fd_b fd_PC 48 := ⟨by decide +kernel, rfl, fd_mem 329 (by decide +kernel), fd_mem 11 (by decide +kernel), ⟨by decide +kernel, by decide +kernel⟩, ⟨by decide +kernel, fd_mem 327 (by decide +kernel), fd_mem 328 (by decide +kernel), fd_T2, 8, rfl⟩⟩
theorem fd_m49 : fx_MF fd_TG fd_cl fd_G fd_y fd_b fd_PC 49 := ⟨by decide +kernel, rfl, fd_mem 367 (by decide +kernel), fd_mem 11 (by decide +kernel), ⟨by decide +kernel, by decide +kernel⟩, ⟨by decide +kernel, fd_mem 365 (by decide +kernel), fd_mem 366 (by decide +kernel), fd_T2, 8, rfl⟩⟩
theorem fd_m50 : fx_MF fd_TG fd_cl fd_G fd_y fd_b fd_PC 50 := ⟨by decide +kernel, rfl, fd_mem 383 (by decide +kernel), fd_mem 11 (by decide +kernel), ⟨by decide +kernel, by decide +kernel⟩, ⟨by decide +kernel, fd_mem 381 (by decide +kernel), fd_mem 382 (by decide +kernel), fd_T2, 8, rfl⟩⟩
theorem fd_m51 : fx_MF fd_TG fd_cl fd_G fd_y fd_b fd_PC 51 := ⟨by decide +kernel, rfl, fd_mem 375 (by decide +kernel), fd_mem 11 (by decide +kernel), ⟨by decide +kernel, by decide +kernel⟩, ⟨by decide +kernel, fd_mem 373 (by decide +kernel), fd_mem 374 (by decide +kernel), fd_T2, 8, rfl⟩⟩
theorem fd_m52 : fx_MF fd_TG fd_cl fd_G fd_y fd_b fd_PC 52 := ⟨by decide +kernel, rfl, fd_mem 543 (by decide +kernel), fd_mem 11 (by decide +kernel), ⟨by decide +kernel, by decide +kernel⟩, ⟨by decide +kernel, fd_mem 541 (by decide +kernel), fd_mem 542 (by decide +kernel), fd_T2, 8, rfl⟩⟩
theorem fd_m53 : fx_MF fd_TG fd_cl fd_G fd_y fd_b fd_PC 53 := ⟨by decide +kernel, rfl, fd_mem 391 (by decide +kernel), fd_mem 11 (by decide +kernel), ⟨by decide +kernel, by decide +kernel⟩, ⟨by decide +kernel, fd_mem 389 (by decide +kernel), fd_mem 390 (by decide +kernel), fd_T2, 8, rfl⟩⟩
theorem fd_m54 : fx_MF fd_TG fd_cl fd_G fd_y fd_b fd_PC 54 := ⟨by decide +kernel, rfl, fd_mem 395 (by decide +kernel), fd_mem 11 (by decide +kernel), ⟨by decide +kernel, by decide +kernel⟩, ⟨by decide +kernel, fd_mem 393 (by decide +kernel), fd_mem 394 (by decide +kernel), fd_T2, 8, rfl⟩⟩
theorem fd_m55 : fx_MF fd_TG fd_cl fd_G fd_y fd_b fd_PC 55 := ⟨by decide +kernel, rfl, fd_mem 371 (by decide +kernel), fd_mem 11 (by decide +kernel), ⟨by decide +kernel, by decide +kernel⟩, ⟨by decide +kernel, fd_mem 369 (by decide +kernel), fd_mem 370 (by decide +kernel), fd_T2, 8, rfl⟩⟩
theorem fd_m56 : fx_MF fd_TG fd_cl fd_G fd_y fd_b fd_PC 56 := ⟨by decide +kernel, rfl, fd_mem 379 (by decide +kernel), fd_mem 11 (by decide +kernel), ⟨by decide +kernel, by decide +kernel⟩, ⟨by decide +kernel, fd_mem 377 (by decide +kernel), fd_mem 378 (by decide +kernel), fd_T2, 8, rfl⟩⟩
theorem fd_m57 : fx_MF fd_TG fd_cl fd_G fd_y fd_b fd_PC 57 := ⟨by decide +kernel, rfl, fd_mem 387 (by decide +kernel), fd_mem 11 (by decide +kernel), ⟨by decide +kernel, by decide +kernel⟩, ⟨by decide +kernel, fd_mem 385 (by decide +kernel), fd_mem 386 (by decide +kernel), fd_T2, 8, rfl⟩⟩
theorem fd_m71 : fx_MF fd_TG fd_cl fd_G fd_y fd_b fd_PC 71 := ⟨by decide +kernel, rfl, fd_mem 355 (by decide +kernel), fd_mem 12 (by decide +kernel), ⟨by decide +kernel, by decide +kernel⟩, ⟨by decide +kernel, fd_mem 353 (by decide +kernel), fd_mem 354 (by decide +kernel), fd_T3, 2, rfl⟩⟩
theorem fd_m74 : fx_MF fd_TG fd_cl fd_G fd_y fd_b fd_PC 74 := ⟨by decide +kernel, rfl, fd_mem 443 (by decide +kernel), fd_mem 14 (by decide +kernel), ⟨by decide +kernel, by decide +kernel⟩, ⟨by decide +kernel, fd_mem 441 (by decide +kernel), fd_mem 442 (by decide +kernel), fd_T4, 2, rfl⟩⟩
theorem fd_m75 : fx_MF fd_TG fd_cl fd_G fd_y fd_b fd_PC 75 := ⟨by decide +kernel, rfl, fd_mem 453 (by decide +kernel), fd_mem 14 (by decide +kernel), ⟨by decide +kernel, by decide +kernel⟩, ⟨by decide +kernel, fd_mem 451 (by decide +kernel), fd_mem 452 (by decide +kernel), fd_T4, 2, rfl⟩⟩
theorem fd_m76 : fx_MF fd_TG fd_cl fd_G fd_y fd_b fd_PC 76 := ⟨by decide +kernel, rfl, fd_mem 457 (by decide +kernel), fd_mem 14 (by decide +kernel), ⟨by decide +kernel, by decide +kernel⟩, ⟨by decide +kernel, fd_mem 455 (by decide +kernel), fd_mem 456 (by decide +kernel), fd_T4, 2, rfl⟩⟩
theorem fd_m77 : fx_MF fd_TG fd_cl fd_G fd_y fd_b fd_PC 77 := ⟨by decide +kernel, rfl, fd_mem 188 (by decide +kernel), fd_mem 10 (by decide +kernel), ⟨by decide +kernel, by decide +kernel⟩, ⟨by decide +kernel, fd_mem 186 (by decide +kernel), fd_mem 187 (by decide +kernel), fd_T5, 3, rfl⟩⟩
theorem fd_m78 : fx_MF fd_TG fd_cl fd_G fd_y fd_b fd_PC 78 := ⟨by decide +kernel, rfl, fd_mem 198 (by decide +kernel), fd_mem 10 (by decide +kernel), ⟨by decide +kernel, by decide +kernel⟩, ⟨by decide +kernel, fd_mem 196 (by decide +kernel), fd_mem 197 (by decide +kernel), fd_T5, 3, rfl⟩⟩
theorem fd_m80 : fx_MF fd_TG fd_cl fd_G fd_y fd_b fd_PC 80 := ⟨by decide +kernel, rfl, fd_mem 229 (by decide +kernel), fd_mem 10 (by decide +kernel), ⟨by decide +kernel, by decide +kernel⟩, ⟨by decide +kernel, fd_mem 227 (by decide +kernel), fd_mem 228 (by decide +kernel), fd_T5, 3, rfl⟩⟩
theorem fd_m81 : fx_MF fd_TG fd_cl fd_G fd_y fd_b fd_PC 81 := ⟨by decide +kernel, rfl, fd_mem 153 (by decide +kernel), fd_mem 10 (by decide +kernel), ⟨by decide +kernel, by decide +kernel⟩, ⟨by decide +kernel, fd_mem 151 (by decide +kernel), fd_mem 152 (by decide +kernel), fd_T5, 3, rfl⟩⟩
theorem fd_m82 : fx_MF fd_TG fd_cl fd_G fd_y fd_b fd_PC 82 := ⟨by decide +kernel, rfl, fd_mem 160 (by decide +kernel), fd_mem 10 (by decide +kernel), ⟨by decide +kernel, by decide +kernel⟩, ⟨by decide +kernel, fd_mem 158 (by decide +kernel), fd_mem 159 (by decide +kernel), fd_T5, 3, rfl⟩⟩
theorem fd_m83 : fx_MF fd_TG fd_cl fd_G fd_y fd_b fd_PC 83 := ⟨by decide +kernel, rfl, fd_mem 164 (by decide +kernel), fd_mem 10 (by decide +kernel), ⟨by decide +kernel, by decide +kernel⟩, ⟨by decide +kernel, fd_mem 162 (by decide +kernel), fd_mem 163 (by decide +kernel), fd_T5, 3, rfl⟩⟩
theorem fd_m84 : fx_MF fd_TG fd_cl fd_G fd_y fd_b fd_PC 84 := ⟨by decide +kernel, rfl, fd_mem 221 (by decide +kernel), fd_mem 10 (by decide +kernel), ⟨by decide +kernel, by decide +kernel⟩, ⟨by decide +kernel, fd_mem 219 (by decide +kernel), fd_mem 220 (by decide +kernel), fd_T5, 3, rfl⟩⟩
theorem fd_m85 : fx_MF fd_TG fd_cl fd_G fd_y fd_b fd_PC 85 := ⟨by decide +kernel, rfl, fd_mem 561 (by decide +kernel), fd_mem 10 (by decide +kernel), ⟨by decide +kernel, by decide +kernel⟩, ⟨by decide +kernel, fd_mem 559 (by decide +kernel), fd_mem 560 (by decide +kernel), fd_T5, 3, rfl⟩⟩
theorem fd_m86 : fx_MF fd_TG fd_cl fd_G fd_y fd_b fd_PC 86 := ⟨by decide +kernel, rfl, fd_mem 403 (by decide +kernel), fd_mem 10 (by decide +kernel), ⟨by decide +kernel, by decide +kernel⟩, ⟨by decide +kernel, fd_mem 401 (by decide +kernel), fd_mem 402 (by decide +kernel), fd_T5, 3, rfl⟩⟩
theorem fd_m87 : fx_MF fd_TG fd_cl fd_G fd_y fd_b fd_PC 87 := ⟨by decide +kernel, rfl, fd_mem 412 (by decide +kernel), fd_mem 10 (by decide +kernel), ⟨by decide +kernel, by decide +kernel⟩, ⟨by decide +kernel, fd_mem 410 (by decide +kernel), fd_mem 411 (by decide +kernel), fd_T5, 3, rfl⟩⟩
theorem fd_m88 : fx_MF fd_TG fd_cl fd_G fd_y fd_b fd_PC 88 := ⟨by decide +kernel, rfl, fd_mem 217 (by decide +kernel), fd_mem 10 (by decide +kernel), ⟨by decide +kernel, by decide +kernel⟩, ⟨by decide +kernel, fd_mem 216 (by decide +kernel), fd_mem 1 (by decide +kernel), fd_T5, 3, rfl⟩⟩
theorem fd_m89 : fx_MF fd_TG fd_cl fd_G fd_y fd_b fd_PC 89 := ⟨by decide +kernel, rfl, fd_mem 236 (by decide +kernel), fd_mem 10 (by decide +kernel), ⟨by decide +kernel, by decide +kernel⟩, ⟨by decide +kernel, fd_mem 234 (by decide +kernel), fd_mem 235 (by decide +kernel), fd_T5, 3, rfl⟩⟩
theorem fd_m90 : fx_MF fd_TG fd_cl fd_G fd_y fd_b fd_PC 90 := ⟨by decide +kernel, rfl, fd_mem 240 (by decide +kernel), fd_mem 10 (by decide +kernel), ⟨by decide +kernel, by decide +kernel⟩, ⟨by decide +kernel, fd_mem 238 (by decide +kernel), fd_mem 239 (by decide +kernel), fd_T5, 3, rfl⟩⟩
theorem fd_m91 : fx_MF fd_TG fd_cl fd_G fd_y fd_b fd_PC 91 := ⟨by decide +kernel, rfl, fd_mem 244 (by decide +kernel), fd_mem 10 (by decide +kernel), ⟨by decide +kernel, by decide +kernel⟩, ⟨by decide +kernel, fd_mem 242 (by decide +kernel), fd_mem 243 (by decide +kernel), fd_T5, 3, rfl⟩⟩
theorem fd_m92 : fx_MF fd_TG fd_cl fd_G fd_y fd_b fd_PC 92 := ⟨by decide +kernel, rfl, fd_mem 213 (by decide +kernel), fd_mem 10 (by decide +kernel), ⟨by decide +kernel, by decide +kernel⟩, ⟨by decide +kernel, fd_mem 211 (by decide +kernel), fd_mem 212 (by decide +kernel), fd_T5, 3, rfl⟩⟩
theorem fd_m93 : fx_MF fd_TG fd_cl fd_G fd_y fd_b fd_PC 93 := ⟨by decide +kernel, rfl, fd_mem 225 (by decide +kernel), fd_mem 10 (by decide +kernel), ⟨by decide +kernel, by decide +kernel⟩, ⟨by decide +kernel, fd_mem 224 (by decide +kernel)⟩⟩
theorem fd_m94 : fx_MF fd_TG fd_cl fd_G fd_y fd_b fd_PC 94 := ⟨by decide +kernel, rfl, fd_mem 424 (by decide +kernel), fd_mem 10 (by decide +kernel), ⟨by decide +kernel, by decide +kernel⟩, ⟨by decide +kernel, fd_mem 422 (by decide +kernel), fd_mem 423 (by decide +kernel), fd_T5, 3, rfl⟩⟩
theorem fd_m95 : fx_MF fd_TG fd_cl fd_G fd_y fd_b fd_PC 95 := ⟨by decide +kernel, rfl, fd_mem 581 (by decide +kernel), fd_mem 10 (by decide +kernel), ⟨by decide +kernel, by decide +kernel⟩, ⟨by decide +kernel, fd_mem 579 (by decide +kernel), fd_mem 580 (by decide +kernel), fd_T5, 3, rfl⟩⟩
theorem fd_m96 : fx_MF fd_TG fd_cl fd_G fd_y fd_b fd_PC 96 := ⟨by decide +kernel, rfl, fd_mem 499 (by decide +kernel), fd_mem 10 (by decide +kernel), ⟨by decide +kernel, by decide +kernel⟩, ⟨by decide +kernel, fd_mem 497 (by decide +kernel), fd_mem 498 (by decide +kernel), fd_T5, 3, rfl⟩⟩
theorem fd_m97 : fx_MF fd_TG fd_cl fd_G fd_y fd_b fd_PC 97 := ⟨by decide +kernel, rfl, fd_mem 284 (by decide +kernel), fd_mem 10 (by decide +kernel), ⟨by decide +kernel, by decide +kernel⟩, ⟨by decide +kernel, fd_mem 282 (by decide +kernel), fd_mem 283 (by decide +kernel), fd_T5, 3, rfl⟩⟩
theorem fd_m98 : fx_MF fd_TG fd_cl fd_G fd_y fd_b fd_PC 98 := ⟨by decide +kernel, rfl, fd_mem 311 (by decide +kernel), fd_mem 10 (by decide +kernel), ⟨by decide +kernel, by decide +kernel⟩, ⟨by decide +kernel, fd_mem 309 (by decide +kernel), fd_mem 310 (by decide +kernel), fd_T5, 3, rfl⟩⟩
theorem fd_m99 : fx_MF fd_TG fd_cl fd_G fd_y fd_b fd_PC 99 := ⟨by decide +kernel, rfl, fd_mem 252 (by decide +kernel), fd_mem 10 (by decide +kernel), ⟨by decide +kernel, by decide +kernel⟩, ⟨by decide +kernel, fd_mem 250 (by decide +kernel), fd_mem 251 (by decide +kernel), fd_T5, 3, rfl⟩⟩
theorem fd_m100 : fx_MF fd_TG fd_cl fd_G fd_y fd_b fd_PC 100 := ⟨by decide +kernel, rfl, fd_mem 263 (by decide +kernel), fd_mem 10 (by decide +kernel), ⟨by decide +kernel, by decide +kernel⟩, ⟨by decide +kernel, fd_mem 261 (by decide +kernel), fd_mem 262 (by decide +kernel), fd_T5, 3, rfl⟩⟩
theorem fd_m101 : fx_MF fd_TG fd_cl fd_G fd_y fd_b fd_PC 101 := ⟨by decide +kernel, rfl, fd_mem 269 (by decide +kernel), fd_mem 10 (by decide +kernel), ⟨by decide +kernel, by decide +kernel⟩, ⟨by decide +kernel, fd_mem 268 (by decide +kernel)⟩⟩
theorem fd_m102 : fx_MF fd_TG fd_cl fd_G fd_y fd_b fd_PC 102 := ⟨by decide +kernel, rfl, fd_mem 272 (by decide +kernel), fd_mem 10 (by decide +kernel), ⟨by decide +kernel, by decide +kernel⟩, ⟨by decide +kernel, fd_mem 271 (by decide +kernel)⟩⟩
theorem fd_m103 : fx_MF fd_TG fd_cl fd_G fd_y fd_b fd_PC 103 := ⟨by decide +kernel, rfl, fd_mem 259 (by decide +kernel), fd_mem 10 (by decide +kernel), ⟨by decide +kernel, by decide +kernel⟩, ⟨by decide +kernel, fd_mem 257 (by decide +kernel), fd_mem 258 (by decide +kernel), fd_T5, 3, rfl⟩⟩
theorem fd_m104 : fx_MF fd_TG fd_cl fd_G fd_y fd_b fd_PC 104 := ⟨by decide +kernel, rfl, fd_mem 280 (by decide +kernel), fd_mem 10 (by decide +kernel), ⟨by decide +kernel, by decide +kernel⟩, ⟨by decide +kernel, fd_mem 278 (by decide +kernel), fd_mem 279 (by decide +kernel), fd_T5, 3, rfl⟩⟩
theorem fd_m105 : fx_MF fd_TG fd_cl fd_G fd_y fd_b fd_PC 105 := ⟨by decide +kernel, rfl, fd_mem 333 (by decide +kernel), fd_mem 10 (by decide +kernel), ⟨by decide +kernel, by decide +kernel⟩, ⟨by decide +kernel, fd_mem 331 (by decide +kernel), fd_mem 332 (by decide +kernel), fd_T5, 3, rfl⟩⟩
theorem fd_m106 : fx_MF fd_TG fd_cl fd_G fd_y fd_b fd_PC 106 := ⟨by decide +kernel, rfl, fd_mem 503 (by decide +kernel), fd_mem 10 (by decide +kernel), ⟨by decide +kernel, by decide +kernel⟩, ⟨by decide +kernel, fd_mem 501 (by decide +kernel), fd_mem 502 (by decide +kernel), fd_T5, 3, rfl⟩⟩
theorem fd_m107 : fx_MF fd_TG fd_cl fd_G fd_y fd_b fd_PC 107 := ⟨by decide +kernel, rfl, fd_mem 514 (by decide +kernel), fd_mem 10 (by decide +kernel), ⟨by decide +kernel, by decide +kernel⟩, ⟨by decide +kernel, fd_mem 512 (by decide +kernel), fd_mem 513 (by decide +kernel), fd_T5, 3, rfl⟩⟩
theorem fd_m108 : fx_MF fd_TG fd_cl fd_G fd_y fd_b fd_PC 108 := ⟨by decide +kernel, rfl, fd_mem 518 (by decide +kernel), fd_mem 10 (by decide +kernel), ⟨by decide +kernel, by decide +kernel⟩, ⟨by decide +kernel, fd_mem 516 (by decide +kernel), fd_mem 517 (by decide +kernel), fd_T5, 3, rfl⟩⟩
theorem fd_m109 : fx_MF fd_TG fd_cl fd_G fd_y fd_b fd_PC 109 := ⟨by decide +kernel, rfl, fd_mem 522 (by decide +kernel), fd_mem 10 (by decide +kernel), ⟨by decide +kernel, by decide +kernel⟩, ⟨by decide +kernel, fd_mem 520 (by decide +kernel), fd_mem 521 (by decide +kernel), fd_T5, 3, rfl⟩⟩
theorem fd_m110 : fx_MF fd_TG fd_cl fd_G fd_y fd_b fd_PC 110 := ⟨by decide +kernel, rfl, fd_mem 528 (by decide +kernel), fd_mem 10 (by decide +kernel), ⟨by decide +kernel, by decide +kernel⟩, ⟨by decide +kernel, fd_mem 526 (by decide +kernel), fd_mem 527 (by decide +kernel), fd_T5, 3, rfl⟩⟩
theorem fd_m111 : fx_MF fd_TG fd_cl fd_G fd_y fd_b fd_PC 111 := ⟨by decide +kernel, rfl, fd_mem 341 (by decide +kernel), fd_mem 10 (by decide +kernel), ⟨by decide +kernel, by decide +kernel⟩, ⟨by decide +kernel, fd_mem 339 (by decide +kernel), fd_mem 340 (by decide +kernel), fd_T5, 3, rfl⟩⟩
theorem fd_m112 : fx_MF fd_TG fd_cl fd_G fd_y fd_b fd_PC 112 := ⟨by decide +kernel, rfl, fd_mem 346 (by decide +kernel), fd_mem 10 (by decide +kernel), ⟨by decide +kernel, by decide +kernel⟩, ⟨by decide +kernel, fd_mem 344 (by decide +kernel), fd_mem 345 (by decide +kernel), fd_T5, 3, rfl⟩⟩
theorem fd_m113 : fx_MF fd_TG fd_cl fd_G fd_y fd_b fd_PC 113 := ⟨by decide +kernel, rfl, fd_mem 350 (by decide +kernel), fd_mem 10 (by decide +kernel), ⟨by decide +kernel, by decide +kernel⟩, ⟨by decide +kernel, fd_mem 348 (by decide +kernel), fd_mem 349 (by decide +kernel), fd_T5, 3, rfl⟩⟩
theorem fd_m182 : fx_MF fd_TG fd_cl fd_G fd_y fd_b fd_PC 182 := ⟨by decide +kernel, rfl, fd_mem 170 (by decide +kernel), fd_mem 17 (by decide +kernel), ⟨by decide +kernel, by decide +kernel⟩, ⟨by decide +kernel, fd_mem 169 (by decide +kernel)⟩⟩
theorem fd_m183 : fx_MF fd_TG fd_cl fd_G fd_y fd_b fd_PC 183 := ⟨by decide +kernel, rfl, fd_mem 295 (by decide +kernel), fd_mem 18 (by decide +kernel), ⟨by decide +kernel, by decide +kernel⟩, ⟨by decide +kernel, fd_mem 294 (by decide +kernel)⟩⟩
theorem fd_m192 : fx_MF fd_TG fd_cl fd_G fd_y fd_b fd_PC 192 := ⟨by decide +kernel, rfl, fd_mem 184 (by decide +kernel), fd_mem 13 (by decide +kernel), ⟨by decide +kernel, by decide +kernel⟩, ⟨by decide +kernel, fd_mem 183 (by decide +kernel), fd_mem 0 (by decide +kernel), fd_T1, 3, rfl⟩⟩

/-! constructors: written by gen3.py (rows of the kit, over a world of named cells) -/
abbrev q_i (cA : Nat → ClassId) (t n : Nat) (f : Nat → Int) : va_E := .inl (cA t, (n, .inl (fun j => Int32.ofInt (f j))))
abbrev q_r (cA : Nat → ClassId) (n : Nat) (g : Nat → Option Nat) : va_E := .inl (cA 9, (n, .inr (.inr (.inr (.inr g)))))
abbrev q_SL : List fx_S := [.inr (.inl (2, [none, some 1, some 2, some 3, some 4, some 5, some 6, some 7])), .inl (0, 144), .inl (0, 72), .inl (0, 72), .inl (0, 72), .inl (0, 72), .inl (0, 72), .inl (1, 72)]
abbrev q_SP : List fx_S := [.inr (.inl (3, [some 1, none])), .inl (2, 60)]
abbrev q_SY : List fx_S := [.inr (.inl (1, [some 1, none, none])), .inr (.inr [2, 6, 10, 14, 18, 22]), .inr (.inl (5, [some 3, some 4, some 5])), .inl (0, 144), .inl (0, 6), .inl (0, 24), .inr (.inl (5, [some 7, some 8, some 9])), .inl (0, 144), .inl (0, 6), .inl (0, 24), .inr (.inl (5, [some 11, some 12, some 13])), .inl (0, 144), .inl (0, 6), .inl (0, 24), .inr (.inl (5, [some 15, some 16, some 17])), .inl (0, 144), .inl (0, 6), .inl (0, 24), .inr (.inl (5, [some 19, some 20, some 21])), .inl (0, 144), .inl (0, 6), .inl (0, 24), .inr (.inl (5, [some 23, some 24, some 25])), .inl (0, 144), .inl (0, 6), .inl (0, 24)]
abbrev q_SO : List fx_S := [.inr (.inl (4, [some 1, some 2])), .inr (.inr [3, 7]), .inl (1, 2), .inr (.inl (5, [some 4, some 5, some 6])), .inl (0, 144), .inl (0, 6), .inl (0, 24), .inr (.inl (5, [some 8, some 9, some 10])), .inl (0, 144), .inl (0, 6), .inl (0, 24)]
def q_MY : fx_M := fun k => [q_mZ, q_mZ, q_mZ, q_mB, q_mH, q_mZ, q_mZ, q_mB, q_mH, q_mZ, q_mZ, q_mB, q_mH, q_mZ, q_mZ, q_mB, q_mH, q_mZ, q_mZ, q_mB, q_mH, q_mZ, q_mZ, q_mB, q_mH, q_mZ].getD k q_mZ
def q_MO : fx_M := fun k => [q_mZ, q_mZ, q_mZ, q_mZ, q_mB, q_mH, q_mZ, q_mZ, q_mB, q_mH, q_mZ].getD k q_mZ
abbrev q_SC : List fx_S := fd_SH.take 56
def q_M0 : fx_M := fun k => [q_mZ, q_mZ, q_mB, q_mH, q_mZ, q_mZ, q_mB, q_mH, q_mZ, q_mZ, q_mZ, q_mZ, q_mZ, q_mZ, q_mZ, q_mZ, q_mZ, q_mZ, q_mZ, q_mZ, q_mZ, q_mZ, q_mB, q_mH, q_mZ, q_mZ, q_mB, q_mH, q_mZ, q_mZ, q_mB, q_mH, q_mZ, q_mZ, q_mB, q_mH, q_mZ, q_mZ, q_mB, q_mH, q_mZ, q_mZ, q_mB, q_mH, q_mZ, q_mZ, q_mZ, q_mZ, q_mZ, q_mB, q_mH, q_mZ, q_mZ, q_mB, q_mH, q_mZ].getD k q_mZ
abbrev q_MC0 : fx_M := q_M0
theorem dq189_0 : decode prog_6_method_1_code 0 = .ok (.aload_n 0, 1) := by decide +kernel
theorem dq189_1 : decode prog_6_method_1_code 1 = .ok (.invokespecial 3, 3) := by decide +kernel
theorem dq189_4 : decode prog_6_method_1_code 4 = .ok (.aload_n 0, 1) := by decide +kernel
theorem dq189_5 : decode prog_6_method_1_code 5 = .ok (.sipush 144, 3) := by decide +kernel
theorem dq189_8 : decode prog_6_method_1_code 8 = .ok (.newarray .int, 2) := by decide +kernel
theorem dq189_10 : decode prog_6_method_1_code 10 = .ok (.putfield 9, 3) := by decide +kernel
theorem dq189_13 : decode prog_6_method_1_code 13 = .ok (.aload_n 0, 1) := by decide +kernel
theorem dq189_14 : decode prog_6_method_1_code 14 = .ok (.bipush 6, 2) := by decide +kernel
theorem dq189_16 : decode prog_6_method_1_code 16 = .ok (.newarray .int, 2) := by decide +kernel
theorem dq189_18 : decode prog_6_method_1_code 18 = .ok (.putfield 15, 3) := by decide +kernel
theorem dq189_21 : decode prog_6_method_1_code 21 = .ok (.aload_n 0, 1) := by decide +kernel
theorem dq189_22 : decode prog_6_method_1_code 22 = .ok (.bipush 24, 2) := by decide +kernel
theorem dq189_24 : decode prog_6_method_1_code 24 = .ok (.newarray .int, 2) := by decide +kernel
theorem dq189_26 : decode prog_6_method_1_code 26 = .ok (.putfield 18, 3) := by decide +kernel
set_option maxHeartbeats 8000000 in
set_option maxRecDepth 100000 in
theorem c_Strip (l : Launch) {D : va_G} {tys : List (ClassId × FieldType)} {cA : Nat → ClassId} (hty : fx_Ty tys cA "FoldedStrips$Strip") : q_MC l D tys 189 1 12 5 [.null, .null, .null] (fun h0 f => fx_wl (q_ad h0 f) cA q_SS q_MS) 3 174 := by
  intro h0 sz
  refine Met.ofW (cc := prog_6_method_1_code) (maxL := 2) (ret := none) (by decide +kernel) rfl ?_
  intro p e s m args below meth c s₁ B hml hv
  obtain ⟨rfl, hsz, hP, hK, hD0, hE⟩ := hv
  have hx := B.exec
  have hb : c.code = prog_6_method_1_code := B.bytes
  have hr : meth.sig.returnType = none := B.returns
  have hts0 := atoms_spec (ws := fx_ws fd_TG fd_G fd_y fd_b 189) B.pre
  have hts : ∀ w ∈ fd_TG, w.before #[Value.ref h0] s = true := fun w hw => hts0 w (List.mem_cons_of_mem _ hw)
  have hown : s.vm.findClass fd_R5 = some m.cls := findClass_of_methodNamed B.named
  have hlocks := B.notSynchronized
  have hin : meth.name = "<init>" := (name_of_methodNamed B.named B.method).1
  subst hsz
  have hD := hD0.self (sz := s.heap.size)
  generalize hAe : va_A [(h0, .inr (5, [.null, .null, .null]))] s.heap.size = A at hD ⊢
  have hA : ∀ q : Nat, s.heap.size ≤ q → A q := fun q h => by rw [← hAe]; exact Or.inr h
  have hS : va_S A s.heap s.heap [] := va_S.rf
  have hP : va_P D fd_cl [(h0, .inr (5, [.null, .null, .null]))] s.heap := hP
  have hl := lv_entry ([.ref h0]) (n := 2) (Nat.le_of_ble_eq_true rfl)
  rw [lg_entry_eq]
  generalize (lg_sl ([.ref h0]) ++ List.replicate (2 - (lg_sl ([.ref h0])).length) Slot.unset).toArray = ls at hl ⊢
  have hl : lv_has ls 2 [(0, .ref h0)] := hl
  refine lv_aload_n hx hb dq189_0 rfl (lv_at hl 0 rfl) ?_
  refine W.objInit hx hb hown (hts _ (fd_mem 32 (by decide +kernel))) (hts _ (fd_mem 25 (by decide +kernel))) (hts _ (fd_mem 26 (by decide +kernel))) rfl (by rw [hml]; exact hl.1) rfl dq189_1 (Nat.le_of_ble_eq_true rfl) (Nat.le_of_ble_eq_true rfl) ?_
  refine W.eq (g2 := F0 m 4 ls []) rfl ?_
  refine lv_aload_n hx hb dq189_4 rfl (lv_at hl 0 rfl) ?_
  refine lv_sipush (v := 144) hx hb dq189_5 (by decide) ?_
  refine q_newa (atype := .int) (a0 := (144, .inl (fun j => Int32.ofInt (q_mZ j)))) (cA := cA 0) (ty := .int) (N' := 144) hx hb (hts _ (fd_mem 43 (by decide +kernel))) rfl hK hP hD hS hA 0 hty.1 (fun _ => rfl) (by decide) (by decide) (Nat.le_of_ble_eq_true rfl) (Nat.le_of_ble_eq_true rfl) (Nat.le_of_ble_eq_true rfl) dq189_8 (fun q8 H hP hD hS => ?_)
  have hP : va_P D fd_cl [(h0, .inr (5, [.null, .null, .null])), (q8, q_i cA 0 144 q_mZ)] H := hP
  have hD : va_D A [(h0, .inr (5, [.null, .null, .null])), (q8, q_i cA 0 144 q_mZ)] := hD
  refine W.widen (k := 1) (n := 144) (Nat.le_of_ble_eq_true rfl) (Nat.le_of_ble_eq_true rfl) ?_
  refine va_putF (D := D) (ci := 5) (v := .ref q8) (ty := .array .int) (C := fd_R5) (T := fd_T5) (N := 3) hx hb hts fd_u5 fd_ty5 fd_t5 fd_n5 hown hK hP hD hS 0 rfl rfl 0 (by decide) (hts (.fieldLink "FoldedStrips$Strip" 9 "FoldedStrips$Strip" "others" "[I") (fd_mem 33 (by decide +kernel))) (fun _ h9 => h9) rfl hin rfl (by decide +kernel) rfl rfl (Nat.le_of_ble_eq_true rfl) dq189_10 (fun H locs hP hD hS => ?_)
  have hP : va_P D fd_cl [(h0, .inr (5, [.ref q8, .null, .null])), (q8, q_i cA 0 144 q_mZ)] H := hP
  have hD : va_D A [(h0, .inr (5, [.ref q8, .null, .null])), (q8, q_i cA 0 144 q_mZ)] := hD
  refine lv_aload_n hx hb dq189_13 rfl (lv_at hl 0 rfl) ?_
  refine lv_bipush (v := 6) hx hb dq189_14 (by decide) ?_
  refine q_newa (atype := .int) (a0 := (6, .inl (fun j => Int32.ofInt (q_mZ j)))) (cA := cA 0) (ty := .int) (N' := 6) hx hb (hts _ (fd_mem 43 (by decide +kernel))) rfl hK hP hD hS hA 0 hty.1 (fun _ => rfl) (by decide) (by decide) (Nat.le_of_ble_eq_true rfl) (Nat.le_of_ble_eq_true rfl) (Nat.le_of_ble_eq_true rfl) dq189_16 (fun q16 H hP hD hS => ?_)
  have hP : va_P D fd_cl [(h0, .inr (5, [.ref q8, .null, .null])), (q8, q_i cA 0 144 q_mZ), (q16, q_i cA 0 6 q_mZ)] H := hP
  have hD : va_D A [(h0, .inr (5, [.ref q8, .null, .null])), (q8, q_i cA 0 144 q_mZ), (q16, q_i cA 0 6 q_mZ)] := hD
  refine W.widen (k := 2) (n := 150) (Nat.le_of_ble_eq_true rfl) (Nat.le_of_ble_eq_true rfl) ?_
  refine va_putF (D := D) (ci := 5) (v := .ref q16) (ty := .array .int) (C := fd_R5) (T := fd_T5) (N := 3) hx hb hts fd_u5 fd_ty5 fd_t5 fd_n5 hown hK hP hD hS 0 rfl rfl 1 (by decide) (hts (.fieldLink "FoldedStrips$Strip" 15 "FoldedStrips$Strip" "hands" "[I") (fd_mem 34 (by decide +kernel))) (fun _ h9 => h9) rfl hin rfl (by decide +kernel) rfl rfl (Nat.le_of_ble_eq_true rfl) dq189_18 (fun H locs hP hD hS => ?_)
  have hP : va_P D fd_cl [(h0, .inr (5, [.ref q8, .ref q16, .null])), (q8, q_i cA 0 144 q_mZ), (q16, q_i cA 0 6 q_mZ)] H := hP
  have hD : va_D A [(h0, .inr (5, [.ref q8, .ref q16, .null])), (q8, q_i cA 0 144 q_mZ), (q16, q_i cA 0 6 q_mZ)] := hD
  refine lv_aload_n hx hb dq189_21 rfl (lv_at hl 0 rfl) ?_
  refine lv_bipush (v := 24) hx hb dq189_22 (by decide) ?_
  refine q_newa (atype := .int) (a0 := (24, .inl (fun j => Int32.ofInt (q_mZ j)))) (cA := cA 0) (ty := .int) (N' := 24) hx hb (hts _ (fd_mem 43 (by decide +kernel))) rfl hK hP hD hS hA 0 hty.1 (fun _ => rfl) (by decide) (by decide) (Nat.le_of_ble_eq_true rfl) (Nat.le_of_ble_eq_true rfl) (Nat.le_of_ble_eq_true rfl) dq189_24 (fun q24 H hP hD hS => ?_)
  have hP : va_P D fd_cl [(h0, .inr (5, [.ref q8, .ref q16, .null])), (q8, q_i cA 0 144 q_mZ), (q16, q_i cA 0 6 q_mZ), (q24, q_i cA 0 24 q_mZ)] H := hP
  have hD : va_D A [(h0, .inr (5, [.ref q8, .ref q16, .null])), (q8, q_i cA 0 144 q_mZ), (q16, q_i cA 0 6 q_mZ), (q24, q_i cA 0 24 q_mZ)] := hD
  refine W.widen (k := 3) (n := 174) (Nat.le_of_ble_eq_true rfl) (Nat.le_of_ble_eq_true rfl) ?_
  refine va_putF (D := D) (ci := 5) (v := .ref q24) (ty := .array .int) (C := fd_R5) (T := fd_T5) (N := 3) hx hb hts fd_u5 fd_ty5 fd_t5 fd_n5 hown hK hP hD hS 0 rfl rfl 2 (by decide) (hts (.fieldLink "FoldedStrips$Strip" 18 "FoldedStrips$Strip" "before" "[I") (fd_mem 35 (by decide +kernel))) (fun _ h9 => h9) rfl hin rfl (by decide +kernel) rfl rfl (Nat.le_of_ble_eq_true rfl) dq189_26 (fun H locs hP hD hS => ?_)
  have hP : va_P D fd_cl [(h0, .inr (5, [.ref q8, .ref q16, .ref q24])), (q8, q_i cA 0 144 q_mZ), (q16, q_i cA 0 6 q_mZ), (q24, q_i cA 0 24 q_mZ)] H := hP
  have hD : va_D A [(h0, .inr (5, [.ref q8, .ref q16, .ref q24])), (q8, q_i cA 0 144 q_mZ), (q16, q_i cA 0 6 q_mZ), (q24, q_i cA 0 24 q_mZ)] := hD
  have hsim := fx_sim (D := D) (cl := fd_cl) (tys := tys) (ad := q_ad h0 (fun k => [q8, q16, q24].getD k 0)) (cA := cA) (SH := q_SS) (Lx := 2147483648) (MX := fun _ => 0) fd_PO hty l
  obtain ⟨n, hn⟩ := ey_Strip
  have hP : va_P D fd_cl (fx_wl (q_ad h0 (fun k => [q8, q16, q24].getD k 0)) cA q_SS q_Z) H := hP
  have hD : va_D A (fx_wl (q_ad h0 (fun k => [q8, q16, q24].getD k 0)) cA q_SS q_Z) := hD
  have hlq : lv_has ls ([fx_f 0, fx_u] : List fx_V).length (fx_prs (q_ad h0 (fun k => [q8, q16, q24].getD k 0)) [fx_f 0, fx_u]) := hl
  refine hsim n 189 0 [fx_f 0, fx_u] [] q_Z none q_MS hn hx hb hml hown hts (Nat.zero_le _) (Nat.zero_le _) ⟨Nat.le_refl _, Nat.le_refl _⟩ hK ⟨hP, hD, hS⟩ (fun h => absurd h (Nat.lt_irrefl _)) hE.2.2.2 hlq (fun H' locs' L' pc' hW he => ?_)
  obtain ⟨hP9, hD9, hS9⟩ := hW
  exact W.vret hx hb hr (fun t ht hW => ⟨⟨(fun k => [q8, q16, q24].getD k 0), rfl, trivial, by rw [ht]; exact hP9, hD9⟩, hS9.F ht⟩) hS9.2.2 he.1
theorem dq186_0 : decode prog_3_method_1_code 0 = .ok (.aload_n 0, 1) := by decide +kernel
theorem dq186_1 : decode prog_3_method_1_code 1 = .ok (.invokespecial 3, 3) := by decide +kernel
theorem dq186_4 : decode prog_3_method_1_code 4 = .ok (.aload_n 0, 1) := by decide +kernel
theorem dq186_5 : decode prog_3_method_1_code 5 = .ok (.iconst 0, 1) := by decide +kernel
theorem dq186_6 : decode prog_3_method_1_code 6 = .ok (.putfield 9, 3) := by decide +kernel
theorem dq186_9 : decode prog_3_method_1_code 9 = .ok (.aload_n 0, 1) := by decide +kernel
theorem dq186_10 : decode prog_3_method_1_code 10 = .ok (.sipush 144, 3) := by decide +kernel
theorem dq186_13 : decode prog_3_method_1_code 13 = .ok (.newarray .int, 2) := by decide +kernel
theorem dq186_15 : decode prog_3_method_1_code 15 = .ok (.putfield 15, 3) := by decide +kernel
theorem dq186_18 : decode prog_3_method_1_code 18 = .ok (.aload_n 0, 1) := by decide +kernel
theorem dq186_19 : decode prog_3_method_1_code 19 = .ok (.bipush 72, 2) := by decide +kernel
theorem dq186_21 : decode prog_3_method_1_code 21 = .ok (.newarray .int, 2) := by decide +kernel
theorem dq186_23 : decode prog_3_method_1_code 23 = .ok (.putfield 19, 3) := by decide +kernel
theorem dq186_26 : decode prog_3_method_1_code 26 = .ok (.aload_n 0, 1) := by decide +kernel
theorem dq186_27 : decode prog_3_method_1_code 27 = .ok (.bipush 72, 2) := by decide +kernel
theorem dq186_29 : decode prog_3_method_1_code 29 = .ok (.newarray .int, 2) := by decide +kernel
theorem dq186_31 : decode prog_3_method_1_code 31 = .ok (.putfield 22, 3) := by decide +kernel
theorem dq186_34 : decode prog_3_method_1_code 34 = .ok (.aload_n 0, 1) := by decide +kernel
theorem dq186_35 : decode prog_3_method_1_code 35 = .ok (.bipush 72, 2) := by decide +kernel
theorem dq186_37 : decode prog_3_method_1_code 37 = .ok (.newarray .int, 2) := by decide +kernel
theorem dq186_39 : decode prog_3_method_1_code 39 = .ok (.putfield 25, 3) := by decide +kernel
theorem dq186_42 : decode prog_3_method_1_code 42 = .ok (.aload_n 0, 1) := by decide +kernel
theorem dq186_43 : decode prog_3_method_1_code 43 = .ok (.bipush 72, 2) := by decide +kernel
theorem dq186_45 : decode prog_3_method_1_code 45 = .ok (.newarray .int, 2) := by decide +kernel
theorem dq186_47 : decode prog_3_method_1_code 47 = .ok (.putfield 28, 3) := by decide +kernel
theorem dq186_50 : decode prog_3_method_1_code 50 = .ok (.aload_n 0, 1) := by decide +kernel
theorem dq186_51 : decode prog_3_method_1_code 51 = .ok (.bipush 72, 2) := by decide +kernel
theorem dq186_53 : decode prog_3_method_1_code 53 = .ok (.newarray .int, 2) := by decide +kernel
theorem dq186_55 : decode prog_3_method_1_code 55 = .ok (.putfield 31, 3) := by decide +kernel
theorem dq186_58 : decode prog_3_method_1_code 58 = .ok (.aload_n 0, 1) := by decide +kernel
theorem dq186_59 : decode prog_3_method_1_code 59 = .ok (.bipush 72, 2) := by decide +kernel
theorem dq186_61 : decode prog_3_method_1_code 61 = .ok (.newarray .boolean, 2) := by decide +kernel
theorem dq186_63 : decode prog_3_method_1_code 63 = .ok (.putfield 34, 3) := by decide +kernel
theorem dq186_66 : decode prog_3_method_1_code 66 = .ok (.return_, 1) := by decide +kernel
set_option maxHeartbeats 8000000 in
set_option maxRecDepth 100000 in
theorem c_Lines (l : Launch) {D : va_G} {tys : List (ClassId × FieldType)} {cA : Nat → ClassId} (hty : fx_Ty tys cA "FoldedStrips$Strip") : q_MC l D tys 186 1 12 2 [.int (Int32.ofInt 0), .null, .null, .null, .null, .null, .null, .null] (fun h0 f => fx_wl (q_ad h0 f) cA q_SL q_Z) 7 576 := by
  intro h0 sz
  refine Met.ofW (cc := prog_3_method_1_code) (maxL := 1) (ret := none) (by decide +kernel) rfl ?_
  intro p e s m args below meth c s₁ B hml hv
  obtain ⟨rfl, hsz, hP, hK, hD0, hE⟩ := hv
  have hx := B.exec
  have hb : c.code = prog_3_method_1_code := B.bytes
  have hr : meth.sig.returnType = none := B.returns
  have hts0 := atoms_spec (ws := fx_ws fd_TG fd_G fd_y fd_b 186) B.pre
  have hts : ∀ w ∈ fd_TG, w.before #[Value.ref h0] s = true := fun w hw => hts0 w (List.mem_cons_of_mem _ hw)
  have hown : s.vm.findClass fd_R2 = some m.cls := findClass_of_methodNamed B.named
  have hlocks := B.notSynchronized
  have hin : meth.name = "<init>" := (name_of_methodNamed B.named B.method).1
  subst hsz
  have hD := hD0.self (sz := s.heap.size)
  generalize hAe : va_A [(h0, .inr (2, [.int (Int32.ofInt 0), .null, .null, .null, .null, .null, .null, .null]))] s.heap.size = A at hD ⊢
  have hA : ∀ q : Nat, s.heap.size ≤ q → A q := fun q h => by rw [← hAe]; exact Or.inr h
  have hS : va_S A s.heap s.heap [] := va_S.rf
  have hP : va_P D fd_cl [(h0, .inr (2, [.int (Int32.ofInt 0), .null, .null, .null, .null, .null, .null, .null]))] s.heap := hP
  have hl := lv_entry ([.ref h0]) (n := 1) (Nat.le_of_ble_eq_true rfl)
  rw [lg_entry_eq]
  generalize (lg_sl ([.ref h0]) ++ List.replicate (1 - (lg_sl ([.ref h0])).length) Slot.unset).toArray = ls at hl ⊢
  have hl : lv_has ls 1 [(0, .ref h0)] := hl
  refine lv_aload_n hx hb dq186_0 rfl (lv_at hl 0 rfl) ?_
  refine W.objInit hx hb hown (hts _ (fd_mem 49 (by decide +kernel))) (hts _ (fd_mem 25 (by decide +kernel))) (hts _ (fd_mem 26 (by decide +kernel))) rfl (by rw [hml]; exact hl.1) rfl dq186_1 (Nat.le_of_ble_eq_true rfl) (Nat.le_of_ble_eq_true rfl) ?_
  refine W.eq (g2 := F0 m 4 ls []) rfl ?_
  refine lv_aload_n hx hb dq186_4 rfl (lv_at hl 0 rfl) ?_
  refine lv_iconst (v := Int32.ofInt 0) hx hb dq186_5 rfl ?_
  refine va_put (D := D) (ci := 2) (v := .int (Int32.ofInt 0)) (ty := .int) (C := fd_R2) (T := fd_T2) (N := 8) hx hb hts fd_u2 fd_ty2 fd_t2 fd_n2 hown hK hP hD hS 0 rfl rfl 0 (by decide) (hts (.fieldLink "FoldedStrips$Lines" 9 "FoldedStrips$Lines" "size" "I") (fd_mem 50 (by decide +kernel))) (fun _ h9 => h9) rfl (by decide +kernel) rfl rfl (Nat.le_of_ble_eq_true rfl) dq186_6 (fun H locs hP hD hS => ?_)
  have hP : va_P D fd_cl [(h0, .inr (2, [.int (Int32.ofInt 0), .null, .null, .null, .null, .null, .null, .null]))] H := hP
  have hD : va_D A [(h0, .inr (2, [.int (Int32.ofInt 0), .null, .null, .null, .null, .null, .null, .null]))] := hD
  refine lv_aload_n hx hb dq186_9 rfl (lv_at hl 0 rfl) ?_
  refine lv_sipush (v := 144) hx hb dq186_10 (by decide) ?_
  refine q_newa (atype := .int) (a0 := (144, .inl (fun j => Int32.ofInt (q_mZ j)))) (cA := cA 0) (ty := .int) (N' := 144) hx hb (hts _ (fd_mem 43 (by decide +kernel))) rfl hK hP hD hS hA 0 hty.1 (fun _ => rfl) (by decide) (by decide) (Nat.le_of_ble_eq_true rfl) (Nat.le_of_ble_eq_true rfl) (Nat.le_of_ble_eq_true rfl) dq186_13 (fun q13 H hP hD hS => ?_)
  have hP : va_P D fd_cl [(h0, .inr (2, [.int (Int32.ofInt 0), .null, .null, .null, .null, .null, .null, .null])), (q13, q_i cA 0 144 q_mZ)] H := hP
  have hD : va_D A [(h0, .inr (2, [.int (Int32.ofInt 0), .null, .null, .null, .null, .null, .null, .null])), (q13, q_i cA 0 144 q_mZ)] := hD
  refine W.widen (k := 1) (n := 144) (Nat.le_of_ble_eq_true rfl) (Nat.le_of_ble_eq_true rfl) ?_
  refine va_putF (D := D) (ci := 2) (v := .ref q13) (ty := .array .int) (C := fd_R2) (T := fd_T2) (N := 8) hx hb hts fd_u2 fd_ty2 fd_t2 fd_n2 hown hK hP hD hS 0 rfl rfl 1 (by decide) (hts (.fieldLink "FoldedStrips$Lines" 15 "FoldedStrips$Lines" "lineOf" "[I") (fd_mem 51 (by decide +kernel))) (fun _ h9 => h9) rfl hin rfl (by decide +kernel) rfl rfl (Nat.le_of_ble_eq_true rfl) dq186_15 (fun H locs hP hD hS => ?_)
  have hP : va_P D fd_cl [(h0, .inr (2, [.int (Int32.ofInt 0), .ref q13, .null, .null, .null, .null, .null, .null])), (q13, q_i cA 0 144 q_mZ)] H := hP
  have hD : va_D A [(h0, .inr (2, [.int (Int32.ofInt 0), .ref q13, .null, .null, .null, .null, .null, .null])), (q13, q_i cA 0 144 q_mZ)] := hD
  refine lv_aload_n hx hb dq186_18 rfl (lv_at hl 0 rfl) ?_
  refine lv_bipush (v := 72) hx hb dq186_19 (by decide) ?_
  refine q_newa (atype := .int) (a0 := (72, .inl (fun j => Int32.ofInt (q_mZ j)))) (cA := cA 0) (ty := .int) (N' := 72) hx hb (hts _ (fd_mem 43 (by decide +kernel))) rfl hK hP hD hS hA 0 hty.1 (fun _ => rfl) (by decide) (by decide) (Nat.le_of_ble_eq_true rfl) (Nat.le_of_ble_eq_true rfl) (Nat.le_of_ble_eq_true rfl) dq186_21 (fun q21 H hP hD hS => ?_)
  have hP : va_P D fd_cl [(h0, .inr (2, [.int (Int32.ofInt 0), .ref q13, .null, .null, .null, .null, .null, .null])), (q13, q_i cA 0 144 q_mZ), (q21, q_i cA 0 72 q_mZ)] H := hP
  have hD : va_D A [(h0, .inr (2, [.int (Int32.ofInt 0), .ref q13, .null, .null, .null, .null, .null, .null])), (q13, q_i cA 0 144 q_mZ), (q21, q_i cA 0 72 q_mZ)] := hD
  refine W.widen (k := 2) (n := 216) (Nat.le_of_ble_eq_true rfl) (Nat.le_of_ble_eq_true rfl) ?_
  refine va_putF (D := D) (ci := 2) (v := .ref q21) (ty := .array .int) (C := fd_R2) (T := fd_T2) (N := 8) hx hb hts fd_u2 fd_ty2 fd_t2 fd_n2 hown hK hP hD hS 0 rfl rfl 2 (by decide) (hts (.fieldLink "FoldedStrips$Lines" 19 "FoldedStrips$Lines" "strokes" "[I") (fd_mem 52 (by decide +kernel))) (fun _ h9 => h9) rfl hin rfl (by decide +kernel) rfl rfl (Nat.le_of_ble_eq_true rfl) dq186_23 (fun H locs hP hD hS => ?_)
  have hP : va_P D fd_cl [(h0, .inr (2, [.int (Int32.ofInt 0), .ref q13, .ref q21, .null, .null, .null, .null, .null])), (q13, q_i cA 0 144 q_mZ), (q21, q_i cA 0 72 q_mZ)] H := hP
  have hD : va_D A [(h0, .inr (2, [.int (Int32.ofInt 0), .ref q13, .ref q21, .null, .null, .null, .null, .null])), (q13, q_i cA 0 144 q_mZ), (q21, q_i cA 0 72 q_mZ)] := hD
  refine lv_aload_n hx hb dq186_26 rfl (lv_at hl 0 rfl) ?_
  refine lv_bipush (v := 72) hx hb dq186_27 (by decide) ?_
  refine q_newa (atype := .int) (a0 := (72, .inl (fun j => Int32.ofInt (q_mZ j)))) (cA := cA 0) (ty := .int) (N' := 72) hx hb (hts _ (fd_mem 43 (by decide +kernel))) rfl hK hP hD hS hA 0 hty.1 (fun _ => rfl) (by decide) (by decide) (Nat.le_of_ble_eq_true rfl) (Nat.le_of_ble_eq_true rfl) (Nat.le_of_ble_eq_true rfl) dq186_29 (fun q29 H hP hD hS => ?_)
  have hP : va_P D fd_cl [(h0, .inr (2, [.int (Int32.ofInt 0), .ref q13, .ref q21, .null, .null, .null, .null, .null])), (q13, q_i cA 0 144 q_mZ), (q21, q_i cA 0 72 q_mZ), (q29, q_i cA 0 72 q_mZ)] H := hP
  have hD : va_D A [(h0, .inr (2, [.int (Int32.ofInt 0), .ref q13, .ref q21, .null, .null, .null, .null, .null])), (q13, q_i cA 0 144 q_mZ), (q21, q_i cA 0 72 q_mZ), (q29, q_i cA 0 72 q_mZ)] := hD
  refine W.widen (k := 3) (n := 288) (Nat.le_of_ble_eq_true rfl) (Nat.le_of_ble_eq_true rfl) ?_
  refine va_putF (D := D) (ci := 2) (v := .ref q29) (ty := .array .int) (C := fd_R2) (T := fd_T2) (N := 8) hx hb hts fd_u2 fd_ty2 fd_t2 fd_n2 hown hK hP hD hS 0 rfl rfl 3 (by decide) (hts (.fieldLink "FoldedStrips$Lines" 22 "FoldedStrips$Lines" "panelSets" "[I") (fd_mem 53 (by decide +kernel))) (fun _ h9 => h9) rfl hin rfl (by decide +kernel) rfl rfl (Nat.le_of_ble_eq_true rfl) dq186_31 (fun H locs hP hD hS => ?_)
  have hP : va_P D fd_cl [(h0, .inr (2, [.int (Int32.ofInt 0), .ref q13, .ref q21, .ref q29, .null, .null, .null, .null])), (q13, q_i cA 0 144 q_mZ), (q21, q_i cA 0 72 q_mZ), (q29, q_i cA 0 72 q_mZ)] H := hP
  have hD : va_D A [(h0, .inr (2, [.int (Int32.ofInt 0), .ref q13, .ref q21, .ref q29, .null, .null, .null, .null])), (q13, q_i cA 0 144 q_mZ), (q21, q_i cA 0 72 q_mZ), (q29, q_i cA 0 72 q_mZ)] := hD
  refine lv_aload_n hx hb dq186_34 rfl (lv_at hl 0 rfl) ?_
  refine lv_bipush (v := 72) hx hb dq186_35 (by decide) ?_
  refine q_newa (atype := .int) (a0 := (72, .inl (fun j => Int32.ofInt (q_mZ j)))) (cA := cA 0) (ty := .int) (N' := 72) hx hb (hts _ (fd_mem 43 (by decide +kernel))) rfl hK hP hD hS hA 0 hty.1 (fun _ => rfl) (by decide) (by decide) (Nat.le_of_ble_eq_true rfl) (Nat.le_of_ble_eq_true rfl) (Nat.le_of_ble_eq_true rfl) dq186_37 (fun q37 H hP hD hS => ?_)
  have hP : va_P D fd_cl [(h0, .inr (2, [.int (Int32.ofInt 0), .ref q13, .ref q21, .ref q29, .null, .null, .null, .null])), (q13, q_i cA 0 144 q_mZ), (q21, q_i cA 0 72 q_mZ), (q29, q_i cA 0 72 q_mZ), (q37, q_i cA 0 72 q_mZ)] H := hP
  have hD : va_D A [(h0, .inr (2, [.int (Int32.ofInt 0), .ref q13, .ref q21, .ref q29, .null, .null, .null, .null])), (q13, q_i cA 0 144 q_mZ), (q21, q_i cA 0 72 q_mZ), (q29, q_i cA 0 72 q_mZ), (q37, q_i cA 0 72 q_mZ)] := hD
  refine W.widen (k := 4) (n := 360) (Nat.le_of_ble_eq_true rfl) (Nat.le_of_ble_eq_true rfl) ?_
  refine va_putF (D := D) (ci := 2) (v := .ref q37) (ty := .array .int) (C := fd_R2) (T := fd_T2) (N := 8) hx hb hts fd_u2 fd_ty2 fd_t2 fd_n2 hown hK hP hD hS 0 rfl rfl 4 (by decide) (hts (.fieldLink "FoldedStrips$Lines" 25 "FoldedStrips$Lines" "handSets" "[I") (fd_mem 54 (by decide +kernel))) (fun _ h9 => h9) rfl hin rfl (by decide +kernel) rfl rfl (Nat.le_of_ble_eq_true rfl) dq186_39 (fun H locs hP hD hS => ?_)
  have hP : va_P D fd_cl [(h0, .inr (2, [.int (Int32.ofInt 0), .ref q13, .ref q21, .ref q29, .ref q37, .null, .null, .null])), (q13, q_i cA 0 144 q_mZ), (q21, q_i cA 0 72 q_mZ), (q29, q_i cA 0 72 q_mZ), (q37, q_i cA 0 72 q_mZ)] H := hP
  have hD : va_D A [(h0, .inr (2, [.int (Int32.ofInt 0), .ref q13, .ref q21, .ref q29, .ref q37, .null, .null, .null])), (q13, q_i cA 0 144 q_mZ), (q21, q_i cA 0 72 q_mZ), (q29, q_i cA 0 72 q_mZ), (q37, q_i cA 0 72 q_mZ)] := hD
  refine lv_aload_n hx hb dq186_42 rfl (lv_at hl 0 rfl) ?_
  refine lv_bipush (v := 72) hx hb dq186_43 (by decide) ?_
  refine q_newa (atype := .int) (a0 := (72, .inl (fun j => Int32.ofInt (q_mZ j)))) (cA := cA 0) (ty := .int) (N' := 72) hx hb (hts _ (fd_mem 43 (by decide +kernel))) rfl hK hP hD hS hA 0 hty.1 (fun _ => rfl) (by decide) (by decide) (Nat.le_of_ble_eq_true rfl) (Nat.le_of_ble_eq_true rfl) (Nat.le_of_ble_eq_true rfl) dq186_45 (fun q45 H hP hD hS => ?_)
  have hP : va_P D fd_cl [(h0, .inr (2, [.int (Int32.ofInt 0), .ref q13, .ref q21, .ref q29, .ref q37, .null, .null, .null])), (q13, q_i cA 0 144 q_mZ), (q21, q_i cA 0 72 q_mZ), (q29, q_i cA 0 72 q_mZ), (q37, q_i cA 0 72 q_mZ), (q45, q_i cA 0 72 q_mZ)] H := hP
  have hD : va_D A [(h0, .inr (2, [.int (Int32.ofInt 0), .ref q13, .ref q21, .ref q29, .ref q37, .null, .null, .null])), (q13, q_i cA 0 144 q_mZ), (q21, q_i cA 0 72 q_mZ), (q29, q_i cA 0 72 q_mZ), (q37, q_i cA 0 72 q_mZ), (q45, q_i cA 0 72 q_mZ)] := hD
  refine W.widen (k := 5) (n := 432) (Nat.le_of_ble_eq_true rfl) (Nat.le_of_ble_eq_true rfl) ?_
  refine va_putF (D := D) (ci := 2) (v := .ref q45) (ty := .array .int) (C := fd_R2) (T := fd_T2) (N := 8) hx hb hts fd_u2 fd_ty2 fd_t2 fd_n2 hown hK hP hD hS 0 rfl rfl 5 (by decide) (hts (.fieldLink "FoldedStrips$Lines" 28 "FoldedStrips$Lines" "lesserEnds" "[I") (fd_mem 55 (by decide +kernel))) (fun _ h9 => h9) rfl hin rfl (by decide +kernel) rfl rfl (Nat.le_of_ble_eq_true rfl) dq186_47 (fun H locs hP hD hS => ?_)
  have hP : va_P D fd_cl [(h0, .inr (2, [.int (Int32.ofInt 0), .ref q13, .ref q21, .ref q29, .ref q37, .ref q45, .null, .null])), (q13, q_i cA 0 144 q_mZ), (q21, q_i cA 0 72 q_mZ), (q29, q_i cA 0 72 q_mZ), (q37, q_i cA 0 72 q_mZ), (q45, q_i cA 0 72 q_mZ)] H := hP
  have hD : va_D A [(h0, .inr (2, [.int (Int32.ofInt 0), .ref q13, .ref q21, .ref q29, .ref q37, .ref q45, .null, .null])), (q13, q_i cA 0 144 q_mZ), (q21, q_i cA 0 72 q_mZ), (q29, q_i cA 0 72 q_mZ), (q37, q_i cA 0 72 q_mZ), (q45, q_i cA 0 72 q_mZ)] := hD
  refine lv_aload_n hx hb dq186_50 rfl (lv_at hl 0 rfl) ?_
  refine lv_bipush (v := 72) hx hb dq186_51 (by decide) ?_
  refine q_newa (atype := .int) (a0 := (72, .inl (fun j => Int32.ofInt (q_mZ j)))) (cA := cA 0) (ty := .int) (N' := 72) hx hb (hts _ (fd_mem 43 (by decide +kernel))) rfl hK hP hD hS hA 0 hty.1 (fun _ => rfl) (by decide) (by decide) (Nat.le_of_ble_eq_true rfl) (Nat.le_of_ble_eq_true rfl) (Nat.le_of_ble_eq_true rfl) dq186_53 (fun q53 H hP hD hS => ?_)
  have hP : va_P D fd_cl [(h0, .inr (2, [.int (Int32.ofInt 0), .ref q13, .ref q21, .ref q29, .ref q37, .ref q45, .null, .null])), (q13, q_i cA 0 144 q_mZ), (q21, q_i cA 0 72 q_mZ), (q29, q_i cA 0 72 q_mZ), (q37, q_i cA 0 72 q_mZ), (q45, q_i cA 0 72 q_mZ), (q53, q_i cA 0 72 q_mZ)] H := hP
  have hD : va_D A [(h0, .inr (2, [.int (Int32.ofInt 0), .ref q13, .ref q21, .ref q29, .ref q37, .ref q45, .null, .null])), (q13, q_i cA 0 144 q_mZ), (q21, q_i cA 0 72 q_mZ), (q29, q_i cA 0 72 q_mZ), (q37, q_i cA 0 72 q_mZ), (q45, q_i cA 0 72 q_mZ), (q53, q_i cA 0 72 q_mZ)] := hD
  refine W.widen (k := 6) (n := 504) (Nat.le_of_ble_eq_true rfl) (Nat.le_of_ble_eq_true rfl) ?_
  refine va_putF (D := D) (ci := 2) (v := .ref q53) (ty := .array .int) (C := fd_R2) (T := fd_T2) (N := 8) hx hb hts fd_u2 fd_ty2 fd_t2 fd_n2 hown hK hP hD hS 0 rfl rfl 6 (by decide) (hts (.fieldLink "FoldedStrips$Lines" 31 "FoldedStrips$Lines" "greaterEnds" "[I") (fd_mem 56 (by decide +kernel))) (fun _ h9 => h9) rfl hin rfl (by decide +kernel) rfl rfl (Nat.le_of_ble_eq_true rfl) dq186_55 (fun H locs hP hD hS => ?_)
  have hP : va_P D fd_cl [(h0, .inr (2, [.int (Int32.ofInt 0), .ref q13, .ref q21, .ref q29, .ref q37, .ref q45, .ref q53, .null])), (q13, q_i cA 0 144 q_mZ), (q21, q_i cA 0 72 q_mZ), (q29, q_i cA 0 72 q_mZ), (q37, q_i cA 0 72 q_mZ), (q45, q_i cA 0 72 q_mZ), (q53, q_i cA 0 72 q_mZ)] H := hP
  have hD : va_D A [(h0, .inr (2, [.int (Int32.ofInt 0), .ref q13, .ref q21, .ref q29, .ref q37, .ref q45, .ref q53, .null])), (q13, q_i cA 0 144 q_mZ), (q21, q_i cA 0 72 q_mZ), (q29, q_i cA 0 72 q_mZ), (q37, q_i cA 0 72 q_mZ), (q45, q_i cA 0 72 q_mZ), (q53, q_i cA 0 72 q_mZ)] := hD
  refine lv_aload_n hx hb dq186_58 rfl (lv_at hl 0 rfl) ?_
  refine lv_bipush (v := 72) hx hb dq186_59 (by decide) ?_
  refine q_newa (atype := .boolean) (a0 := (72, .inl (fun j => Int32.ofInt (q_mZ j)))) (cA := cA 1) (ty := .boolean) (N' := 72) hx hb (hts _ (fd_mem 75 (by decide +kernel))) rfl hK hP hD hS hA 1 hty.2.1 (fun _ => rfl) (by decide) (by decide) (Nat.le_of_ble_eq_true rfl) (Nat.le_of_ble_eq_true rfl) (Nat.le_of_ble_eq_true rfl) dq186_61 (fun q61 H hP hD hS => ?_)
  have hP : va_P D fd_cl [(h0, .inr (2, [.int (Int32.ofInt 0), .ref q13, .ref q21, .ref q29, .ref q37, .ref q45, .ref q53, .null])), (q13, q_i cA 0 144 q_mZ), (q21, q_i cA 0 72 q_mZ), (q29, q_i cA 0 72 q_mZ), (q37, q_i cA 0 72 q_mZ), (q45, q_i cA 0 72 q_mZ), (q53, q_i cA 0 72 q_mZ), (q61, q_i cA 1 72 q_mZ)] H := hP
  have hD : va_D A [(h0, .inr (2, [.int (Int32.ofInt 0), .ref q13, .ref q21, .ref q29, .ref q37, .ref q45, .ref q53, .null])), (q13, q_i cA 0 144 q_mZ), (q21, q_i cA 0 72 q_mZ), (q29, q_i cA 0 72 q_mZ), (q37, q_i cA 0 72 q_mZ), (q45, q_i cA 0 72 q_mZ), (q53, q_i cA 0 72 q_mZ), (q61, q_i cA 1 72 q_mZ)] := hD
  refine W.widen (k := 7) (n := 576) (Nat.le_of_ble_eq_true rfl) (Nat.le_of_ble_eq_true rfl) ?_
  refine va_putF (D := D) (ci := 2) (v := .ref q61) (ty := .array .boolean) (C := fd_R2) (T := fd_T2) (N := 8) hx hb hts fd_u2 fd_ty2 fd_t2 fd_n2 hown hK hP hD hS 0 rfl rfl 7 (by decide) (hts (.fieldLink "FoldedStrips$Lines" 34 "FoldedStrips$Lines" "looped" "[Z") (fd_mem 57 (by decide +kernel))) (fun _ h9 => h9) rfl hin rfl (by decide +kernel) rfl rfl (Nat.le_of_ble_eq_true rfl) dq186_63 (fun H locs hP hD hS => ?_)
  have hP : va_P D fd_cl [(h0, .inr (2, [.int (Int32.ofInt 0), .ref q13, .ref q21, .ref q29, .ref q37, .ref q45, .ref q53, .ref q61])), (q13, q_i cA 0 144 q_mZ), (q21, q_i cA 0 72 q_mZ), (q29, q_i cA 0 72 q_mZ), (q37, q_i cA 0 72 q_mZ), (q45, q_i cA 0 72 q_mZ), (q53, q_i cA 0 72 q_mZ), (q61, q_i cA 1 72 q_mZ)] H := hP
  have hD : va_D A [(h0, .inr (2, [.int (Int32.ofInt 0), .ref q13, .ref q21, .ref q29, .ref q37, .ref q45, .ref q53, .ref q61])), (q13, q_i cA 0 144 q_mZ), (q21, q_i cA 0 72 q_mZ), (q29, q_i cA 0 72 q_mZ), (q37, q_i cA 0 72 q_mZ), (q45, q_i cA 0 72 q_mZ), (q53, q_i cA 0 72 q_mZ), (q61, q_i cA 1 72 q_mZ)] := hD
  have hP9 : va_P D fd_cl (fx_wl (q_ad h0 (fun k => [q13, q21, q29, q37, q45, q53, q61].getD k 0)) cA q_SL q_Z) H := hP
  have hD9 : va_D A (fx_wl (q_ad h0 (fun k => [q13, q21, q29, q37, q45, q53, q61].getD k 0)) cA q_SL q_Z) := hD
  exact W.vret hx hb hr (fun t ht hW => ⟨⟨(fun k => [q13, q21, q29, q37, q45, q53, q61].getD k 0), rfl, trivial, by rw [ht]; exact hP9, hD9⟩, hS.F ht⟩) hS.2.2 dq186_66
theorem dq187_0 : decode prog_4_method_1_code 0 = .ok (.aload_n 0, 1) := by decide +kernel
theorem dq187_1 : decode prog_4_method_1_code 1 = .ok (.invokespecial 5, 3) := by decide +kernel
theorem dq187_4 : decode prog_4_method_1_code 4 = .ok (.aload_n 0, 1) := by decide +kernel
theorem dq187_5 : decode prog_4_method_1_code 5 = .ok (.bipush 60, 2) := by decide +kernel
theorem dq187_7 : decode prog_4_method_1_code 7 = .ok (.newarray .char, 2) := by decide +kernel
theorem dq187_9 : decode prog_4_method_1_code 9 = .ok (.putfield 11, 3) := by decide +kernel
theorem dq187_12 : decode prog_4_method_1_code 12 = .ok (.aload_n 0, 1) := by decide +kernel
theorem dq187_13 : decode prog_4_method_1_code 13 = .ok (.iconst 0, 1) := by decide +kernel
theorem dq187_14 : decode prog_4_method_1_code 14 = .ok (.putfield 15, 3) := by decide +kernel
theorem dq187_17 : decode prog_4_method_1_code 17 = .ok (.return_, 1) := by decide +kernel
set_option maxHeartbeats 8000000 in
set_option maxRecDepth 100000 in
theorem c_Pad (l : Launch) {D : va_G} {tys : List (ClassId × FieldType)} {cA : Nat → ClassId} (hty : fx_Ty tys cA "FoldedStrips$Strip") : q_MC l D tys 187 1 12 3 [.null, .int (Int32.ofInt 0)] (fun h0 f => fx_wl (q_ad h0 f) cA q_SP q_Z) 1 60 := by
  intro h0 sz
  refine Met.ofW (cc := prog_4_method_1_code) (maxL := 1) (ret := none) (by decide +kernel) rfl ?_
  intro p e s m args below meth c s₁ B hml hv
  obtain ⟨rfl, hsz, hP, hK, hD0, hE⟩ := hv
  have hx := B.exec
  have hb : c.code = prog_4_method_1_code := B.bytes
  have hr : meth.sig.returnType = none := B.returns
  have hts0 := atoms_spec (ws := fx_ws fd_TG fd_G fd_y fd_b 187) B.pre
  have hts : ∀ w ∈ fd_TG, w.before #[Value.ref h0] s = true := fun w hw => hts0 w (List.mem_cons_of_mem _ hw)
  have hown : s.vm.findClass fd_R3 = some m.cls := findClass_of_methodNamed B.named
  have hlocks := B.notSynchronized
  have hin : meth.name = "<init>" := (name_of_methodNamed B.named B.method).1
  subst hsz
  have hD := hD0.self (sz := s.heap.size)
  generalize hAe : va_A [(h0, .inr (3, [.null, .int (Int32.ofInt 0)]))] s.heap.size = A at hD ⊢
  have hA : ∀ q : Nat, s.heap.size ≤ q → A q := fun q h => by rw [← hAe]; exact Or.inr h
  have hS : va_S A s.heap s.heap [] := va_S.rf
  have hP : va_P D fd_cl [(h0, .inr (3, [.null, .int (Int32.ofInt 0)]))] s.heap := hP
  have hl := lv_entry ([.ref h0]) (n := 1) (Nat.le_of_ble_eq_true rfl)
  rw [lg_entry_eq]
  generalize (lg_sl ([.ref h0]) ++ List.replicate (1 - (lg_sl ([.ref h0])).length) Slot.unset).toArray = ls at hl ⊢
  have hl : lv_has ls 1 [(0, .ref h0)] := hl
  refine lv_aload_n hx hb dq187_0 rfl (lv_at hl 0 rfl) ?_
  refine W.objInit hx hb hown (hts _ (fd_mem 81 (by decide +kernel))) (hts _ (fd_mem 25 (by decide +kernel))) (hts _ (fd_mem 26 (by decide +kernel))) rfl (by rw [hml]; exact hl.1) rfl dq187_1 (Nat.le_of_ble_eq_true rfl) (Nat.le_of_ble_eq_true rfl) ?_
  refine W.eq (g2 := F0 m 4 ls []) rfl ?_
  refine lv_aload_n hx hb dq187_4 rfl (lv_at hl 0 rfl) ?_
  refine lv_bipush (v := 60) hx hb dq187_5 (by decide) ?_
  refine q_newa (atype := .char) (a0 := (60, .inl (fun j => Int32.ofInt (q_mZ j)))) (cA := cA 2) (ty := .char) (N' := 60) hx hb (hts _ (fd_mem 89 (by decide +kernel))) rfl hK hP hD hS hA 2 hty.2.2.1 (fun _ => rfl) (by decide) (by decide) (Nat.le_of_ble_eq_true rfl) (Nat.le_of_ble_eq_true rfl) (Nat.le_of_ble_eq_true rfl) dq187_7 (fun q7 H hP hD hS => ?_)
  have hP : va_P D fd_cl [(h0, .inr (3, [.null, .int (Int32.ofInt 0)])), (q7, q_i cA 2 60 q_mZ)] H := hP
  have hD : va_D A [(h0, .inr (3, [.null, .int (Int32.ofInt 0)])), (q7, q_i cA 2 60 q_mZ)] := hD
  refine W.widen (k := 1) (n := 60) (Nat.le_of_ble_eq_true rfl) (Nat.le_of_ble_eq_true rfl) ?_
  refine va_putF (D := D) (ci := 3) (v := .ref q7) (ty := .array .char) (C := fd_R3) (T := fd_T3) (N := 2) hx hb hts fd_u3 fd_ty3 fd_t3 fd_n3 hown hK hP hD hS 0 rfl rfl 0 (by decide) (hts (.fieldLink "FoldedStrips$Pad" 11 "FoldedStrips$Pad" "text" "[C") (fd_mem 82 (by decide +kernel))) (fun _ h9 => h9) rfl hin rfl (by decide +kernel) rfl rfl (Nat.le_of_ble_eq_true rfl) dq187_9 (fun H locs hP hD hS => ?_)
  have hP : va_P D fd_cl [(h0, .inr (3, [.ref q7, .int (Int32.ofInt 0)])), (q7, q_i cA 2 60 q_mZ)] H := hP
  have hD : va_D A [(h0, .inr (3, [.ref q7, .int (Int32.ofInt 0)])), (q7, q_i cA 2 60 q_mZ)] := hD
  refine lv_aload_n hx hb dq187_12 rfl (lv_at hl 0 rfl) ?_
  refine lv_iconst (v := Int32.ofInt 0) hx hb dq187_13 rfl ?_
  refine va_put (D := D) (ci := 3) (v := .int (Int32.ofInt 0)) (ty := .int) (C := fd_R3) (T := fd_T3) (N := 2) hx hb hts fd_u3 fd_ty3 fd_t3 fd_n3 hown hK hP hD hS 0 rfl rfl 1 (by decide) (hts (.fieldLink "FoldedStrips$Pad" 15 "FoldedStrips$Pad" "length" "I") (fd_mem 83 (by decide +kernel))) (fun _ h9 => h9) rfl (by decide +kernel) rfl rfl (Nat.le_of_ble_eq_true rfl) dq187_14 (fun H locs hP hD hS => ?_)
  have hP : va_P D fd_cl [(h0, .inr (3, [.ref q7, .int (Int32.ofInt 0)])), (q7, q_i cA 2 60 q_mZ)] H := hP
  have hD : va_D A [(h0, .inr (3, [.ref q7, .int (Int32.ofInt 0)])), (q7, q_i cA 2 60 q_mZ)] := hD
  have hP9 : va_P D fd_cl (fx_wl (q_ad h0 (fun k => [q7].getD k 0)) cA q_SP q_Z) H := hP
  have hD9 : va_D A (fx_wl (q_ad h0 (fun k => [q7].getD k 0)) cA q_SP q_Z) := hD
  exact W.vret hx hb hr (fun t ht hW => ⟨⟨(fun k => [q7].getD k 0), rfl, trivial, by rw [ht]; exact hP9, hD9⟩, hS.F ht⟩) hS.2.2 dq187_17

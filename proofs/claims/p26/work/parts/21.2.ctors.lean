theorem dq185_0 : decode prog_2_method_1_code 0 = .ok (.aload_n 0, 1) := by decide +kernel
theorem dq185_1 : decode prog_2_method_1_code 1 = .ok (.invokespecial 3, 3) := by decide +kernel
theorem dq185_4 : decode prog_2_method_1_code 4 = .ok (.aload_n 0, 1) := by decide +kernel
theorem dq185_5 : decode prog_2_method_1_code 5 = .ok (.bipush 6, 2) := by decide +kernel
theorem dq185_7 : decode prog_2_method_1_code 7 = .ok (.anewarray 9, 3) := by decide +kernel
theorem dq185_10 : decode prog_2_method_1_code 10 = .ok (.putfield 11, 3) := by decide +kernel
theorem dq185_13 : decode prog_2_method_1_code 13 = .ok (.aload_n 0, 1) := by decide +kernel
theorem dq185_14 : decode prog_2_method_1_code 14 = .ok (.iconst 0, 1) := by decide +kernel
theorem dq185_15 : decode prog_2_method_1_code 15 = .ok (.putfield 17, 3) := by decide +kernel
theorem dq185_18 : decode prog_2_method_1_code 18 = .ok (.aload_n 0, 1) := by decide +kernel
theorem dq185_19 : decode prog_2_method_1_code 19 = .ok (.iconst 0, 1) := by decide +kernel
theorem dq185_20 : decode prog_2_method_1_code 20 = .ok (.putfield 21, 3) := by decide +kernel
theorem dq185_23 : decode prog_2_method_1_code 23 = .ok (.iconst 0, 1) := by decide +kernel
theorem dq185_24 : decode prog_2_method_1_code 24 = .ok (.istore_n 1, 1) := by decide +kernel
theorem dq185_25 : decode prog_2_method_1_code 25 = .ok (.iload_n 1, 1) := by decide +kernel
theorem dq185_26 : decode prog_2_method_1_code 26 = .ok (.bipush 6, 2) := by decide +kernel
theorem dq185_28 : decode prog_2_method_1_code 28 = .ok (.if_icmp .ge 22, 3) := by decide +kernel
theorem dq185_31 : decode prog_2_method_1_code 31 = .ok (.aload_n 0, 1) := by decide +kernel
theorem dq185_32 : decode prog_2_method_1_code 32 = .ok (.getfield 11, 3) := by decide +kernel
theorem dq185_35 : decode prog_2_method_1_code 35 = .ok (.iload_n 1, 1) := by decide +kernel
theorem dq185_36 : decode prog_2_method_1_code 36 = .ok (.new 9, 3) := by decide +kernel
theorem dq185_39 : decode prog_2_method_1_code 39 = .ok (.dup, 1) := by decide +kernel
theorem dq185_40 : decode prog_2_method_1_code 40 = .ok (.invokespecial 24, 3) := by decide +kernel
theorem dq185_43 : decode prog_2_method_1_code 43 = .ok (.aastore, 1) := by decide +kernel
theorem dq185_44 : decode prog_2_method_1_code 44 = .ok (.iinc 1 1, 3) := by decide +kernel
theorem dq185_47 : decode prog_2_method_1_code 47 = .ok (.goto (-22), 3) := by decide +kernel
theorem dq185_50 : decode prog_2_method_1_code 50 = .ok (.return_, 1) := by decide +kernel
set_option maxHeartbeats 8000000 in
set_option maxRecDepth 100000 in
theorem c_History (l : Launch) {D : va_G} {tys : List (ClassId × FieldType)} {cA : Nat → ClassId} (hty : fx_Ty tys cA "FoldedStrips$Strip") : q_MC l D tys 185 2 33 1 [.null, .int (Int32.ofInt 0), .int (Int32.ofInt 0)] (fun h0 f => fx_wl (q_ad h0 f) cA q_SY q_MY) 25 1068 := by
  intro h0 sz
  refine Met.ofW (cc := prog_2_method_1_code) (maxL := 2) (ret := none) (by decide +kernel) rfl ?_
  intro p e s m args below meth c s₁ B hml hv
  obtain ⟨rfl, hsz, hP, hK, hD0, hE⟩ := hv
  have hx := B.exec
  have hb : c.code = prog_2_method_1_code := B.bytes
  have hr : meth.sig.returnType = none := B.returns
  have hts0 := atoms_spec (ws := fx_ws fd_TG fd_G fd_y fd_b 185) B.pre
  have hts : ∀ w ∈ fd_TG, w.before #[Value.ref h0] s = true := fun w hw => hts0 w (List.mem_cons_of_mem _ hw)
  have hown : s.vm.findClass fd_R1 = some m.cls := findClass_of_methodNamed B.named
  have hlocks := B.notSynchronized
  have hin : meth.name = "<init>" := (name_of_methodNamed B.named B.method).1
  subst hsz
  have hD := hD0.self (sz := s.heap.size)
  generalize hAe : va_A [(h0, .inr (1, [.null, .int (Int32.ofInt 0), .int (Int32.ofInt 0)]))] s.heap.size = A at hD ⊢
  have hA : ∀ q : Nat, s.heap.size ≤ q → A q := fun q h => by rw [← hAe]; exact Or.inr h
  have hS : va_S A s.heap s.heap [] := va_S.rf
  have hP : va_P D fd_cl [(h0, .inr (1, [.null, .int (Int32.ofInt 0), .int (Int32.ofInt 0)]))] s.heap := hP
  have hl := lv_entry ([.ref h0]) (n := 2) (Nat.le_of_ble_eq_true rfl)
  rw [lg_entry_eq]
  generalize (lg_sl ([.ref h0]) ++ List.replicate (2 - (lg_sl ([.ref h0])).length) Slot.unset).toArray = ls at hl ⊢
  have hl : lv_has ls 2 [(0, .ref h0)] := hl
  refine lv_aload_n hx hb dq185_0 rfl (lv_at hl 0 rfl) ?_
  refine W.objInit hx hb hown (hts _ (fd_mem 95 (by decide +kernel))) (hts _ (fd_mem 25 (by decide +kernel))) (hts _ (fd_mem 26 (by decide +kernel))) rfl (by rw [hml]; exact hl.1) rfl dq185_1 (Nat.le_of_ble_eq_true rfl) (Nat.le_of_ble_eq_true rfl) ?_
  refine W.eq (g2 := F0 m 4 ls []) rfl ?_
  refine lv_aload_n hx hb dq185_4 rfl (lv_at hl 0 rfl) ?_
  refine lv_bipush (v := 6) hx hb dq185_5 (by decide) ?_
  refine q_newq (C := "FoldedStrips$Strip") (cA := cA 9) (N' := 6) hx hb hown (hts _ (fd_mem 96 (by decide +kernel))) hE.1 hK hP hD hS hA 3 hty.2.2.2 (by decide) (by decide) (Nat.le_of_ble_eq_true rfl) (Nat.le_of_ble_eq_true rfl) (Nat.le_of_ble_eq_true rfl) dq185_7 (fun q7 H hP hD hS => ?_)
  have hP : va_P D fd_cl [(h0, .inr (1, [.null, .int (Int32.ofInt 0), .int (Int32.ofInt 0)])), (q7, q_r cA 6 (fun _ => none))] H := hP
  have hD : va_D A [(h0, .inr (1, [.null, .int (Int32.ofInt 0), .int (Int32.ofInt 0)])), (q7, q_r cA 6 (fun _ => none))] := hD
  refine W.widen (k := 1) (n := 6) (Nat.le_of_ble_eq_true rfl) (Nat.le_of_ble_eq_true rfl) ?_
  refine va_putF (D := D) (ci := 1) (v := .ref q7) (ty := .array (.object "FoldedStrips$Strip")) (C := fd_R1) (T := fd_T1) (N := 3) hx hb hts fd_u1 fd_ty1 fd_t1 fd_n1 hown hK hP hD hS 0 rfl rfl 0 (by decide) (hts (.fieldLink "FoldedStrips$History" 11 "FoldedStrips$History" "states" "[LFoldedStrips$Strip;") (fd_mem 99 (by decide +kernel))) (fun _ h9 => h9) rfl hin rfl (by decide +kernel) rfl rfl (Nat.le_of_ble_eq_true rfl) dq185_10 (fun H locs hP hD hS => ?_)
  have hP : va_P D fd_cl [(h0, .inr (1, [.ref q7, .int (Int32.ofInt 0), .int (Int32.ofInt 0)])), (q7, q_r cA 6 (fun _ => none))] H := hP
  have hD : va_D A [(h0, .inr (1, [.ref q7, .int (Int32.ofInt 0), .int (Int32.ofInt 0)])), (q7, q_r cA 6 (fun _ => none))] := hD
  refine lv_aload_n hx hb dq185_13 rfl (lv_at hl 0 rfl) ?_
  refine lv_iconst (v := Int32.ofInt 0) hx hb dq185_14 rfl ?_
  refine va_put (D := D) (ci := 1) (v := .int (Int32.ofInt 0)) (ty := .int) (C := fd_R1) (T := fd_T1) (N := 3) hx hb hts fd_u1 fd_ty1 fd_t1 fd_n1 hown hK hP hD hS 0 rfl rfl 1 (by decide) (hts (.fieldLink "FoldedStrips$History" 17 "FoldedStrips$History" "size" "I") (fd_mem 100 (by decide +kernel))) (fun _ h9 => h9) rfl (by decide +kernel) rfl rfl (Nat.le_of_ble_eq_true rfl) dq185_15 (fun H locs hP hD hS => ?_)
  have hP : va_P D fd_cl [(h0, .inr (1, [.ref q7, .int (Int32.ofInt 0), .int (Int32.ofInt 0)])), (q7, q_r cA 6 (fun _ => none))] H := hP
  have hD : va_D A [(h0, .inr (1, [.ref q7, .int (Int32.ofInt 0), .int (Int32.ofInt 0)])), (q7, q_r cA 6 (fun _ => none))] := hD
  refine lv_aload_n hx hb dq185_18 rfl (lv_at hl 0 rfl) ?_
  refine lv_iconst (v := Int32.ofInt 0) hx hb dq185_19 rfl ?_
  refine va_put (D := D) (ci := 1) (v := .int (Int32.ofInt 0)) (ty := .int) (C := fd_R1) (T := fd_T1) (N := 3) hx hb hts fd_u1 fd_ty1 fd_t1 fd_n1 hown hK hP hD hS 0 rfl rfl 2 (by decide) (hts (.fieldLink "FoldedStrips$History" 21 "FoldedStrips$History" "next" "I") (fd_mem 101 (by decide +kernel))) (fun _ h9 => h9) rfl (by decide +kernel) rfl rfl (Nat.le_of_ble_eq_true rfl) dq185_20 (fun H locs hP hD hS => ?_)
  have hP : va_P D fd_cl [(h0, .inr (1, [.ref q7, .int (Int32.ofInt 0), .int (Int32.ofInt 0)])), (q7, q_r cA 6 (fun _ => none))] H := hP
  have hD : va_D A [(h0, .inr (1, [.ref q7, .int (Int32.ofInt 0), .int (Int32.ofInt 0)])), (q7, q_r cA 6 (fun _ => none))] := hD
  refine lv_iconst (v := 0) hx hb dq185_23 (by decide) ?_
  refine lv_istore_n (lv' := [(1, .int 0), (0, .ref h0)]) hx hb dq185_24 rfl hl (by decide) rfl (fun ls hl => ?_)
  refine lv_iload_n hx hb dq185_25 rfl (lv_at hl 0 rfl) ?_
  refine lv_bipush (v := 6) hx hb dq185_26 (by decide) ?_
  refine lv_icmp_ge (tgt := 50) hx hb dq185_28 (by decide) (fun cq => absurd cq (by decide)) (fun cq => ?_)
  refine lv_aload_n hx hb dq185_31 rfl (lv_at hl 1 rfl) ?_
  refine va_get (D := D) (ci := 1) (v := .ref q7) (C := fd_R1) (T := fd_T1) (N := 3) hx hb hts fd_u1 hown hK hP 0 rfl rfl 0 (by decide) (hts (.fieldLink "FoldedStrips$History" 11 "FoldedStrips$History" "states" "[LFoldedStrips$Strip;") (fd_mem 99 (by decide +kernel))) (fun _ h9 => h9) rfl dq185_32 ?_
  refine lv_iload_n hx hb dq185_35 rfl (lv_at hl 0 rfl) ?_
  refine q_make (own := fd_R1) (C := fd_R5) (T := fd_T5) (N := 3) (c_Strip l hty) hx hb hml hown hts hK hE hP hD hS hA (fd_mem 96 (by decide +kernel)) (fd_mem 28 (by decide +kernel)) (fd_mem 10 (by decide +kernel)) rfl fd_u5 fd_ty5 fd_t5 (fun j hj => by rcases (show j = 0 ∨ j = 1 ∨ j = 2 by omega) with rfl | rfl | rfl <;> rfl) (Or.inl (fd_mem 98 (by decide +kernel))) (fd_mem 31 (by decide +kernel)) (fd_mem 30 (by decide +kernel)) rfl rfl rfl (by decide +kernel) (Nat.le_of_ble_eq_true rfl) (Nat.le_of_ble_eq_true rfl) (Nat.le_of_ble_eq_true rfl) (Nat.le_of_ble_eq_true rfl) (Nat.le_of_ble_eq_true rfl) hl.1 dq185_36 dq185_39 dq185_40 (fun n1 f1 H locs hP hD hS => ?_)
  have hP : va_P D fd_cl [(h0, .inr (1, [.ref q7, .int (Int32.ofInt 0), .int (Int32.ofInt 0)])), (q7, q_r cA 6 (fun _ => none)), (n1, .inr (5, [.ref (f1 0), .ref (f1 1), .ref (f1 2)])), (f1 0, q_i cA 0 144 q_mB), (f1 1, q_i cA 0 6 q_mH), (f1 2, q_i cA 0 24 q_mZ)] H := hP
  have hD : va_D A [(h0, .inr (1, [.ref q7, .int (Int32.ofInt 0), .int (Int32.ofInt 0)])), (q7, q_r cA 6 (fun _ => none)), (n1, .inr (5, [.ref (f1 0), .ref (f1 1), .ref (f1 2)])), (f1 0, q_i cA 0 144 q_mB), (f1 1, q_i cA 0 6 q_mH), (f1 2, q_i cA 0 24 q_mZ)] := hD
  refine W.widen (k := 5) (n := 183) (Nat.le_of_ble_eq_true rfl) (Nat.le_of_ble_eq_true rfl) ?_
  refine va_astq (D := D) hx hb hK hP hD hS 1 3 2 5 rfl hty.2.2.2 rfl rfl (i := 0) (vp_in_iff.mpr (by decide)) dq185_43 (fun H locs hP hD hS => ?_)
  have hP : va_P D fd_cl [(h0, .inr (1, [.ref q7, .int (Int32.ofInt 0), .int (Int32.ofInt 0)])), (q7, q_r cA 6 (va_up (fun _ => none) 0 (some n1))), (n1, .inr (5, [.ref (f1 0), .ref (f1 1), .ref (f1 2)])), (f1 0, q_i cA 0 144 q_mB), (f1 1, q_i cA 0 6 q_mH), (f1 2, q_i cA 0 24 q_mZ)] H := hP
  have hD : va_D A [(h0, .inr (1, [.ref q7, .int (Int32.ofInt 0), .int (Int32.ofInt 0)])), (q7, q_r cA 6 (va_up (fun _ => none) 0 (some n1))), (n1, .inr (5, [.ref (f1 0), .ref (f1 1), .ref (f1 2)])), (f1 0, q_i cA 0 144 q_mB), (f1 1, q_i cA 0 6 q_mH), (f1 2, q_i cA 0 24 q_mZ)] := hD
  refine lv_iinc (v := 1) (lv' := [(1, .int 1), (0, .ref h0)]) hx hb dq185_44 hl (k := 0) rfl (by decide) (by decide) rfl (fun ls hl => ?_)
  refine lv_goto (tgt := 25) hx hb dq185_47 (by decide) ?_
  refine lv_iload_n hx hb dq185_25 rfl (lv_at hl 0 rfl) ?_
  refine lv_bipush (v := 6) hx hb dq185_26 (by decide) ?_
  refine lv_icmp_ge (tgt := 50) hx hb dq185_28 (by decide) (fun cq => absurd cq (by decide)) (fun cq => ?_)
  refine lv_aload_n hx hb dq185_31 rfl (lv_at hl 1 rfl) ?_
  refine va_get (D := D) (ci := 1) (v := .ref q7) (C := fd_R1) (T := fd_T1) (N := 3) hx hb hts fd_u1 hown hK hP 0 rfl rfl 0 (by decide) (hts (.fieldLink "FoldedStrips$History" 11 "FoldedStrips$History" "states" "[LFoldedStrips$Strip;") (fd_mem 99 (by decide +kernel))) (fun _ h9 => h9) rfl dq185_32 ?_
  refine lv_iload_n hx hb dq185_35 rfl (lv_at hl 0 rfl) ?_
  refine q_make (own := fd_R1) (C := fd_R5) (T := fd_T5) (N := 3) (c_Strip l hty) hx hb hml hown hts hK hE hP hD hS hA (fd_mem 96 (by decide +kernel)) (fd_mem 28 (by decide +kernel)) (fd_mem 10 (by decide +kernel)) rfl fd_u5 fd_ty5 fd_t5 (fun j hj => by rcases (show j = 0 ∨ j = 1 ∨ j = 2 by omega) with rfl | rfl | rfl <;> rfl) (Or.inl (fd_mem 98 (by decide +kernel))) (fd_mem 31 (by decide +kernel)) (fd_mem 30 (by decide +kernel)) rfl rfl rfl (by decide +kernel) (Nat.le_of_ble_eq_true rfl) (Nat.le_of_ble_eq_true rfl) (Nat.le_of_ble_eq_true rfl) (Nat.le_of_ble_eq_true rfl) (Nat.le_of_ble_eq_true rfl) hl.1 dq185_36 dq185_39 dq185_40 (fun n2 f2 H locs hP hD hS => ?_)
  have hP : va_P D fd_cl [(h0, .inr (1, [.ref q7, .int (Int32.ofInt 0), .int (Int32.ofInt 0)])), (q7, q_r cA 6 (va_up (fun _ => none) 0 (some n1))), (n1, .inr (5, [.ref (f1 0), .ref (f1 1), .ref (f1 2)])), (f1 0, q_i cA 0 144 q_mB), (f1 1, q_i cA 0 6 q_mH), (f1 2, q_i cA 0 24 q_mZ), (n2, .inr (5, [.ref (f2 0), .ref (f2 1), .ref (f2 2)])), (f2 0, q_i cA 0 144 q_mB), (f2 1, q_i cA 0 6 q_mH), (f2 2, q_i cA 0 24 q_mZ)] H := hP
  have hD : va_D A [(h0, .inr (1, [.ref q7, .int (Int32.ofInt 0), .int (Int32.ofInt 0)])), (q7, q_r cA 6 (va_up (fun _ => none) 0 (some n1))), (n1, .inr (5, [.ref (f1 0), .ref (f1 1), .ref (f1 2)])), (f1 0, q_i cA 0 144 q_mB), (f1 1, q_i cA 0 6 q_mH), (f1 2, q_i cA 0 24 q_mZ), (n2, .inr (5, [.ref (f2 0), .ref (f2 1), .ref (f2 2)])), (f2 0, q_i cA 0 144 q_mB), (f2 1, q_i cA 0 6 q_mH), (f2 2, q_i cA 0 24 q_mZ)] := hD
  refine W.widen (k := 9) (n := 360) (Nat.le_of_ble_eq_true rfl) (Nat.le_of_ble_eq_true rfl) ?_
  refine va_astq (D := D) hx hb hK hP hD hS 1 3 6 5 rfl hty.2.2.2 rfl rfl (i := 1) (vp_in_iff.mpr (by decide)) dq185_43 (fun H locs hP hD hS => ?_)
  have hP : va_P D fd_cl [(h0, .inr (1, [.ref q7, .int (Int32.ofInt 0), .int (Int32.ofInt 0)])), (q7, q_r cA 6 (va_up (va_up (fun _ => none) 0 (some n1)) 1 (some n2))), (n1, .inr (5, [.ref (f1 0), .ref (f1 1), .ref (f1 2)])), (f1 0, q_i cA 0 144 q_mB), (f1 1, q_i cA 0 6 q_mH), (f1 2, q_i cA 0 24 q_mZ), (n2, .inr (5, [.ref (f2 0), .ref (f2 1), .ref (f2 2)])), (f2 0, q_i cA 0 144 q_mB), (f2 1, q_i cA 0 6 q_mH), (f2 2, q_i cA 0 24 q_mZ)] H := hP
  have hD : va_D A [(h0, .inr (1, [.ref q7, .int (Int32.ofInt 0), .int (Int32.ofInt 0)])), (q7, q_r cA 6 (va_up (va_up (fun _ => none) 0 (some n1)) 1 (some n2))), (n1, .inr (5, [.ref (f1 0), .ref (f1 1), .ref (f1 2)])), (f1 0, q_i cA 0 144 q_mB), (f1 1, q_i cA 0 6 q_mH), (f1 2, q_i cA 0 24 q_mZ), (n2, .inr (5, [.ref (f2 0), .ref (f2 1), .ref (f2 2)])), (f2 0, q_i cA 0 144 q_mB), (f2 1, q_i cA 0 6 q_mH), (f2 2, q_i cA 0 24 q_mZ)] := hD
  refine lv_iinc (v := 2) (lv' := [(1, .int 2), (0, .ref h0)]) hx hb dq185_44 hl (k := 0) rfl (by decide) (by decide) rfl (fun ls hl => ?_)
  refine lv_goto (tgt := 25) hx hb dq185_47 (by decide) ?_
  refine lv_iload_n hx hb dq185_25 rfl (lv_at hl 0 rfl) ?_
  refine lv_bipush (v := 6) hx hb dq185_26 (by decide) ?_
  refine lv_icmp_ge (tgt := 50) hx hb dq185_28 (by decide) (fun cq => absurd cq (by decide)) (fun cq => ?_)
  refine lv_aload_n hx hb dq185_31 rfl (lv_at hl 1 rfl) ?_
  refine va_get (D := D) (ci := 1) (v := .ref q7) (C := fd_R1) (T := fd_T1) (N := 3) hx hb hts fd_u1 hown hK hP 0 rfl rfl 0 (by decide) (hts (.fieldLink "FoldedStrips$History" 11 "FoldedStrips$History" "states" "[LFoldedStrips$Strip;") (fd_mem 99 (by decide +kernel))) (fun _ h9 => h9) rfl dq185_32 ?_
  refine lv_iload_n hx hb dq185_35 rfl (lv_at hl 0 rfl) ?_
  refine q_make (own := fd_R1) (C := fd_R5) (T := fd_T5) (N := 3) (c_Strip l hty) hx hb hml hown hts hK hE hP hD hS hA (fd_mem 96 (by decide +kernel)) (fd_mem 28 (by decide +kernel)) (fd_mem 10 (by decide +kernel)) rfl fd_u5 fd_ty5 fd_t5 (fun j hj => by rcases (show j = 0 ∨ j = 1 ∨ j = 2 by omega) with rfl | rfl | rfl <;> rfl) (Or.inl (fd_mem 98 (by decide +kernel))) (fd_mem 31 (by decide +kernel)) (fd_mem 30 (by decide +kernel)) rfl rfl rfl (by decide +kernel) (Nat.le_of_ble_eq_true rfl) (Nat.le_of_ble_eq_true rfl) (Nat.le_of_ble_eq_true rfl) (Nat.le_of_ble_eq_true rfl) (Nat.le_of_ble_eq_true rfl) hl.1 dq185_36 dq185_39 dq185_40 (fun n3 f3 H locs hP hD hS => ?_)
  have hP : va_P D fd_cl [(h0, .inr (1, [.ref q7, .int (Int32.ofInt 0), .int (Int32.ofInt 0)])), (q7, q_r cA 6 (va_up (va_up (fun _ => none) 0 (some n1)) 1 (some n2))), (n1, .inr (5, [.ref (f1 0), .ref (f1 1), .ref (f1 2)])), (f1 0, q_i cA 0 144 q_mB), (f1 1, q_i cA 0 6 q_mH), (f1 2, q_i cA 0 24 q_mZ), (n2, .inr (5, [.ref (f2 0), .ref (f2 1), .ref (f2 2)])), (f2 0, q_i cA 0 144 q_mB), (f2 1, q_i cA 0 6 q_mH), (f2 2, q_i cA 0 24 q_mZ), (n3, .inr (5, [.ref (f3 0), .ref (f3 1), .ref (f3 2)])), (f3 0, q_i cA 0 144 q_mB), (f3 1, q_i cA 0 6 q_mH), (f3 2, q_i cA 0 24 q_mZ)] H := hP
  have hD : va_D A [(h0, .inr (1, [.ref q7, .int (Int32.ofInt 0), .int (Int32.ofInt 0)])), (q7, q_r cA 6 (va_up (va_up (fun _ => none) 0 (some n1)) 1 (some n2))), (n1, .inr (5, [.ref (f1 0), .ref (f1 1), .ref (f1 2)])), (f1 0, q_i cA 0 144 q_mB), (f1 1, q_i cA 0 6 q_mH), (f1 2, q_i cA 0 24 q_mZ), (n2, .inr (5, [.ref (f2 0), .ref (f2 1), .ref (f2 2)])), (f2 0, q_i cA 0 144 q_mB), (f2 1, q_i cA 0 6 q_mH), (f2 2, q_i cA 0 24 q_mZ), (n3, .inr (5, [.ref (f3 0), .ref (f3 1), .ref (f3 2)])), (f3 0, q_i cA 0 144 q_mB), (f3 1, q_i cA 0 6 q_mH), (f3 2, q_i cA 0 24 q_mZ)] := hD
  refine W.widen (k := 13) (n := 537) (Nat.le_of_ble_eq_true rfl) (Nat.le_of_ble_eq_true rfl) ?_
  refine va_astq (D := D) hx hb hK hP hD hS 1 3 10 5 rfl hty.2.2.2 rfl rfl (i := 2) (vp_in_iff.mpr (by decide)) dq185_43 (fun H locs hP hD hS => ?_)
  have hP : va_P D fd_cl [(h0, .inr (1, [.ref q7, .int (Int32.ofInt 0), .int (Int32.ofInt 0)])), (q7, q_r cA 6 (va_up (va_up (va_up (fun _ => none) 0 (some n1)) 1 (some n2)) 2 (some n3))), (n1, .inr (5, [.ref (f1 0), .ref (f1 1), .ref (f1 2)])), (f1 0, q_i cA 0 144 q_mB), (f1 1, q_i cA 0 6 q_mH), (f1 2, q_i cA 0 24 q_mZ), (n2, .inr (5, [.ref (f2 0), .ref (f2 1), .ref (f2 2)])), (f2 0, q_i cA 0 144 q_mB), (f2 1, q_i cA 0 6 q_mH), (f2 2, q_i cA 0 24 q_mZ), (n3, .inr (5, [.ref (f3 0), .ref (f3 1), .ref (f3 2)])), (f3 0, q_i cA 0 144 q_mB), (f3 1, q_i cA 0 6 q_mH), (f3 2, q_i cA 0 24 q_mZ)] H := hP
  have hD : va_D A [(h0, .inr (1, [.ref q7, .int (Int32.ofInt 0), .int (Int32.ofInt 0)])), (q7, q_r cA 6 (va_up (va_up (va_up (fun _ => none) 0 (some n1)) 1 (some n2)) 2 (some n3))), (n1, .inr (5, [.ref (f1 0), .ref (f1 1), .ref (f1 2)])), (f1 0, q_i cA 0 144 q_mB), (f1 1, q_i cA 0 6 q_mH), (f1 2, q_i cA 0 24 q_mZ), (n2, .inr (5, [.ref (f2 0), .ref (f2 1), .ref (f2 2)])), (f2 0, q_i cA 0 144 q_mB), (f2 1, q_i cA 0 6 q_mH), (f2 2, q_i cA 0 24 q_mZ), (n3, .inr (5, [.ref (f3 0), .ref (f3 1), .ref (f3 2)])), (f3 0, q_i cA 0 144 q_mB), (f3 1, q_i cA 0 6 q_mH), (f3 2, q_i cA 0 24 q_mZ)] := hD
  refine lv_iinc (v := 3) (lv' := [(1, .int 3), (0, .ref h0)]) hx hb dq185_44 hl (k := 0) rfl (by decide) (by decide) rfl (fun ls hl => ?_)
  refine lv_goto (tgt := 25) hx hb dq185_47 (by decide) ?_
  refine lv_iload_n hx hb dq185_25 rfl (lv_at hl 0 rfl) ?_
  refine lv_bipush (v := 6) hx hb dq185_26 (by decide) ?_
  refine lv_icmp_ge (tgt := 50) hx hb dq185_28 (by decide) (fun cq => absurd cq (by decide)) (fun cq => ?_)
  refine lv_aload_n hx hb dq185_31 rfl (lv_at hl 1 rfl) ?_
  refine va_get (D := D) (ci := 1) (v := .ref q7) (C := fd_R1) (T := fd_T1) (N := 3) hx hb hts fd_u1 hown hK hP 0 rfl rfl 0 (by decide) (hts (.fieldLink "FoldedStrips$History" 11 "FoldedStrips$History" "states" "[LFoldedStrips$Strip;") (fd_mem 99 (by decide +kernel))) (fun _ h9 => h9) rfl dq185_32 ?_
  refine lv_iload_n hx hb dq185_35 rfl (lv_at hl 0 rfl) ?_
  refine q_make (own := fd_R1) (C := fd_R5) (T := fd_T5) (N := 3) (c_Strip l hty) hx hb hml hown hts hK hE hP hD hS hA (fd_mem 96 (by decide +kernel)) (fd_mem 28 (by decide +kernel)) (fd_mem 10 (by decide +kernel)) rfl fd_u5 fd_ty5 fd_t5 (fun j hj => by rcases (show j = 0 ∨ j = 1 ∨ j = 2 by omega) with rfl | rfl | rfl <;> rfl) (Or.inl (fd_mem 98 (by decide +kernel))) (fd_mem 31 (by decide +kernel)) (fd_mem 30 (by decide +kernel)) rfl rfl rfl (by decide +kernel) (Nat.le_of_ble_eq_true rfl) (Nat.le_of_ble_eq_true rfl) (Nat.le_of_ble_eq_true rfl) (Nat.le_of_ble_eq_true rfl) (Nat.le_of_ble_eq_true rfl) hl.1 dq185_36 dq185_39 dq185_40 (fun n4 f4 H locs hP hD hS => ?_)
  have hP : va_P D fd_cl [(h0, .inr (1, [.ref q7, .int (Int32.ofInt 0), .int (Int32.ofInt 0)])), (q7, q_r cA 6 (va_up (va_up (va_up (fun _ => none) 0 (some n1)) 1 (some n2)) 2 (some n3))), (n1, .inr (5, [.ref (f1 0), .ref (f1 1), .ref (f1 2)])), (f1 0, q_i cA 0 144 q_mB), (f1 1, q_i cA 0 6 q_mH), (f1 2, q_i cA 0 24 q_mZ), (n2, .inr (5, [.ref (f2 0), .ref (f2 1), .ref (f2 2)])), (f2 0, q_i cA 0 144 q_mB), (f2 1, q_i cA 0 6 q_mH), (f2 2, q_i cA 0 24 q_mZ), (n3, .inr (5, [.ref (f3 0), .ref (f3 1), .ref (f3 2)])), (f3 0, q_i cA 0 144 q_mB), (f3 1, q_i cA 0 6 q_mH), (f3 2, q_i cA 0 24 q_mZ), (n4, .inr (5, [.ref (f4 0), .ref (f4 1), .ref (f4 2)])), (f4 0, q_i cA 0 144 q_mB), (f4 1, q_i cA 0 6 q_mH), (f4 2, q_i cA 0 24 q_mZ)] H := hP
  have hD : va_D A [(h0, .inr (1, [.ref q7, .int (Int32.ofInt 0), .int (Int32.ofInt 0)])), (q7, q_r cA 6 (va_up (va_up (va_up (fun _ => none) 0 (some n1)) 1 (some n2)) 2 (some n3))), (n1, .inr (5, [.ref (f1 0), .ref (f1 1), .ref (f1 2)])), (f1 0, q_i cA 0 144 q_mB), (f1 1, q_i cA 0 6 q_mH), (f1 2, q_i cA 0 24 q_mZ), (n2, .inr (5, [.ref (f2 0), .ref (f2 1), .ref (f2 2)])), (f2 0, q_i cA 0 144 q_mB), (f2 1, q_i cA 0 6 q_mH), (f2 2, q_i cA 0 24 q_mZ), (n3, .inr (5, [.ref (f3 0), .ref (f3 1), .ref (f3 2)])), (f3 0, q_i cA 0 144 q_mB), (f3 1, q_i cA 0 6 q_mH), (f3 2, q_i cA 0 24 q_mZ), (n4, .inr (5, [.ref (f4 0), .ref (f4 1), .ref (f4 2)])), (f4 0, q_i cA 0 144 q_mB), (f4 1, q_i cA 0 6 q_mH), (f4 2, q_i cA 0 24 q_mZ)] := hD
  refine W.widen (k := 17) (n := 714) (Nat.le_of_ble_eq_true rfl) (Nat.le_of_ble_eq_true rfl) ?_
  refine va_astq (D := D) hx hb hK hP hD hS 1 3 14 5 rfl hty.2.2.2 rfl rfl (i := 3) (vp_in_iff.mpr (by decide)) dq185_43 (fun H locs hP hD hS => ?_)
  have hP : va_P D fd_cl [(h0, .inr (1, [.ref q7, .int (Int32.ofInt 0), .int (Int32.ofInt 0)])), (q7, q_r cA 6 (va_up (va_up (va_up (va_up (fun _ => none) 0 (some n1)) 1 (some n2)) 2 (some n3)) 3 (some n4))), (n1, .inr (5, [.ref (f1 0), .ref (f1 1), .ref (f1 2)])), (f1 0, q_i cA 0 144 q_mB), (f1 1, q_i cA 0 6 q_mH), (f1 2, q_i cA 0 24 q_mZ), (n2, .inr (5, [.ref (f2 0), .ref (f2 1), .ref (f2 2)])), (f2 0, q_i cA 0 144 q_mB), (f2 1, q_i cA 0 6 q_mH), (f2 2, q_i cA 0 24 q_mZ), (n3, .inr (5, [.ref (f3 0), .ref (f3 1), .ref (f3 2)])), (f3 0, q_i cA 0 144 q_mB), (f3 1, q_i cA 0 6 q_mH), (f3 2, q_i cA 0 24 q_mZ), (n4, .inr (5, [.ref (f4 0), .ref (f4 1), .ref (f4 2)])), (f4 0, q_i cA 0 144 q_mB), (f4 1, q_i cA 0 6 q_mH), (f4 2, q_i cA 0 24 q_mZ)] H := hP
  have hD : va_D A [(h0, .inr (1, [.ref q7, .int (Int32.ofInt 0), .int (Int32.ofInt 0)])), (q7, q_r cA 6 (va_up (va_up (va_up (va_up (fun _ => none) 0 (some n1)) 1 (some n2)) 2 (some n3)) 3 (some n4))), (n1, .inr (5, [.ref (f1 0), .ref (f1 1), .ref (f1 2)])), (f1 0, q_i cA 0 144 q_mB), (f1 1, q_i cA 0 6 q_mH), (f1 2, q_i cA 0 24 q_mZ), (n2, .inr (5, [.ref (f2 0), .ref (f2 1), .ref (f2 2)])), (f2 0, q_i cA 0 144 q_mB), (f2 1, q_i cA 0 6 q_mH), (f2 2, q_i cA 0 24 q_mZ), (n3, .inr (5, [.ref (f3 0), .ref (f3 1), .ref (f3 2)])), (f3 0, q_i cA 0 144 q_mB), (f3 1, q_i cA 0 6 q_mH), (f3 2, q_i cA 0 24 q_mZ), (n4, .inr (5, [.ref (f4 0), .ref (f4 1), .ref (f4 2)])), (f4 0, q_i cA 0 144 q_mB), (f4 1, q_i cA 0 6 q_mH), (f4 2, q_i cA 0 24 q_mZ)] := hD
  refine lv_iinc (v := 4) (lv' := [(1, .int 4), (0, .ref h0)]) hx hb dq185_44 hl (k := 0) rfl (by decide) (by decide) rfl (fun ls hl => ?_)
  refine lv_goto (tgt := 25) hx hb dq185_47 (by decide) ?_
  refine lv_iload_n hx hb dq185_25 rfl (lv_at hl 0 rfl) ?_
  refine lv_bipush (v := 6) hx hb dq185_26 (by decide) ?_
  refine lv_icmp_ge (tgt := 50) hx hb dq185_28 (by decide) (fun cq => absurd cq (by decide)) (fun cq => ?_)
  refine lv_aload_n hx hb dq185_31 rfl (lv_at hl 1 rfl) ?_
  refine va_get (D := D) (ci := 1) (v := .ref q7) (C := fd_R1) (T := fd_T1) (N := 3) hx hb hts fd_u1 hown hK hP 0 rfl rfl 0 (by decide) (hts (.fieldLink "FoldedStrips$History" 11 "FoldedStrips$History" "states" "[LFoldedStrips$Strip;") (fd_mem 99 (by decide +kernel))) (fun _ h9 => h9) rfl dq185_32 ?_
  refine lv_iload_n hx hb dq185_35 rfl (lv_at hl 0 rfl) ?_
  refine q_make (own := fd_R1) (C := fd_R5) (T := fd_T5) (N := 3) (c_Strip l hty) hx hb hml hown hts hK hE hP hD hS hA (fd_mem 96 (by decide +kernel)) (fd_mem 28 (by decide +kernel)) (fd_mem 10 (by decide +kernel)) rfl fd_u5 fd_ty5 fd_t5 (fun j hj => by rcases (show j = 0 ∨ j = 1 ∨ j = 2 by omega) with rfl | rfl | rfl <;> rfl) (Or.inl (fd_mem 98 (by decide +kernel))) (fd_mem 31 (by decide +kernel)) (fd_mem 30 (by decide +kernel)) rfl rfl rfl (by decide +kernel) (Nat.le_of_ble_eq_true rfl) (Nat.le_of_ble_eq_true rfl) (Nat.le_of_ble_eq_true rfl) (Nat.le_of_ble_eq_true rfl) (Nat.le_of_ble_eq_true rfl) hl.1 dq185_36 dq185_39 dq185_40 (fun n5 f5 H locs hP hD hS => ?_)
  have hP : va_P D fd_cl [(h0, .inr (1, [.ref q7, .int (Int32.ofInt 0), .int (Int32.ofInt 0)])), (q7, q_r cA 6 (va_up (va_up (va_up (va_up (fun _ => none) 0 (some n1)) 1 (some n2)) 2 (some n3)) 3 (some n4))), (n1, .inr (5, [.ref (f1 0), .ref (f1 1), .ref (f1 2)])), (f1 0, q_i cA 0 144 q_mB), (f1 1, q_i cA 0 6 q_mH), (f1 2, q_i cA 0 24 q_mZ), (n2, .inr (5, [.ref (f2 0), .ref (f2 1), .ref (f2 2)])), (f2 0, q_i cA 0 144 q_mB), (f2 1, q_i cA 0 6 q_mH), (f2 2, q_i cA 0 24 q_mZ), (n3, .inr (5, [.ref (f3 0), .ref (f3 1), .ref (f3 2)])), (f3 0, q_i cA 0 144 q_mB), (f3 1, q_i cA 0 6 q_mH), (f3 2, q_i cA 0 24 q_mZ), (n4, .inr (5, [.ref (f4 0), .ref (f4 1), .ref (f4 2)])), (f4 0, q_i cA 0 144 q_mB), (f4 1, q_i cA 0 6 q_mH), (f4 2, q_i cA 0 24 q_mZ), (n5, .inr (5, [.ref (f5 0), .ref (f5 1), .ref (f5 2)])), (f5 0, q_i cA 0 144 q_mB), (f5 1, q_i cA 0 6 q_mH), (f5 2, q_i cA 0 24 q_mZ)] H := hP
  have hD : va_D A [(h0, .inr (1, [.ref q7, .int (Int32.ofInt 0), .int (Int32.ofInt 0)])), (q7, q_r cA 6 (va_up (va_up (va_up (va_up (fun _ => none) 0 (some n1)) 1 (some n2)) 2 (some n3)) 3 (some n4))), (n1, .inr (5, [.ref (f1 0), .ref (f1 1), .ref (f1 2)])), (f1 0, q_i cA 0 144 q_mB), (f1 1, q_i cA 0 6 q_mH), (f1 2, q_i cA 0 24 q_mZ), (n2, .inr (5, [.ref (f2 0), .ref (f2 1), .ref (f2 2)])), (f2 0, q_i cA 0 144 q_mB), (f2 1, q_i cA 0 6 q_mH), (f2 2, q_i cA 0 24 q_mZ), (n3, .inr (5, [.ref (f3 0), .ref (f3 1), .ref (f3 2)])), (f3 0, q_i cA 0 144 q_mB), (f3 1, q_i cA 0 6 q_mH), (f3 2, q_i cA 0 24 q_mZ), (n4, .inr (5, [.ref (f4 0), .ref (f4 1), .ref (f4 2)])), (f4 0, q_i cA 0 144 q_mB), (f4 1, q_i cA 0 6 q_mH), (f4 2, q_i cA 0 24 q_mZ), (n5, .inr (5, [.ref (f5 0), .ref (f5 1), .ref (f5 2)])), (f5 0, q_i cA 0 144 q_mB), (f5 1, q_i cA 0 6 q_mH), (f5 2, q_i cA 0 24 q_mZ)] := hD
  refine W.widen (k := 21) (n := 891) (Nat.le_of_ble_eq_true rfl) (Nat.le_of_ble_eq_true rfl) ?_
  refine va_astq (D := D) hx hb hK hP hD hS 1 3 18 5 rfl hty.2.2.2 rfl rfl (i := 4) (vp_in_iff.mpr (by decide)) dq185_43 (fun H locs hP hD hS => ?_)
  have hP : va_P D fd_cl [(h0, .inr (1, [.ref q7, .int (Int32.ofInt 0), .int (Int32.ofInt 0)])), (q7, q_r cA 6 (va_up (va_up (va_up (va_up (va_up (fun _ => none) 0 (some n1)) 1 (some n2)) 2 (some n3)) 3 (some n4)) 4 (some n5))), (n1, .inr (5, [.ref (f1 0), .ref (f1 1), .ref (f1 2)])), (f1 0, q_i cA 0 144 q_mB), (f1 1, q_i cA 0 6 q_mH), (f1 2, q_i cA 0 24 q_mZ), (n2, .inr (5, [.ref (f2 0), .ref (f2 1), .ref (f2 2)])), (f2 0, q_i cA 0 144 q_mB), (f2 1, q_i cA 0 6 q_mH), (f2 2, q_i cA 0 24 q_mZ), (n3, .inr (5, [.ref (f3 0), .ref (f3 1), .ref (f3 2)])), (f3 0, q_i cA 0 144 q_mB), (f3 1, q_i cA 0 6 q_mH), (f3 2, q_i cA 0 24 q_mZ), (n4, .inr (5, [.ref (f4 0), .ref (f4 1), .ref (f4 2)])), (f4 0, q_i cA 0 144 q_mB), (f4 1, q_i cA 0 6 q_mH), (f4 2, q_i cA 0 24 q_mZ), (n5, .inr (5, [.ref (f5 0), .ref (f5 1), .ref (f5 2)])), (f5 0, q_i cA 0 144 q_mB), (f5 1, q_i cA 0 6 q_mH), (f5 2, q_i cA 0 24 q_mZ)] H := hP
  have hD : va_D A [(h0, .inr (1, [.ref q7, .int (Int32.ofInt 0), .int (Int32.ofInt 0)])), (q7, q_r cA 6 (va_up (va_up (va_up (va_up (va_up (fun _ => none) 0 (some n1)) 1 (some n2)) 2 (some n3)) 3 (some n4)) 4 (some n5))), (n1, .inr (5, [.ref (f1 0), .ref (f1 1), .ref (f1 2)])), (f1 0, q_i cA 0 144 q_mB), (f1 1, q_i cA 0 6 q_mH), (f1 2, q_i cA 0 24 q_mZ), (n2, .inr (5, [.ref (f2 0), .ref (f2 1), .ref (f2 2)])), (f2 0, q_i cA 0 144 q_mB), (f2 1, q_i cA 0 6 q_mH), (f2 2, q_i cA 0 24 q_mZ), (n3, .inr (5, [.ref (f3 0), .ref (f3 1), .ref (f3 2)])), (f3 0, q_i cA 0 144 q_mB), (f3 1, q_i cA 0 6 q_mH), (f3 2, q_i cA 0 24 q_mZ), (n4, .inr (5, [.ref (f4 0), .ref (f4 1), .ref (f4 2)])), (f4 0, q_i cA 0 144 q_mB), (f4 1, q_i cA 0 6 q_mH), (f4 2, q_i cA 0 24 q_mZ), (n5, .inr (5, [.ref (f5 0), .ref (f5 1), .ref (f5 2)])), (f5 0, q_i cA 0 144 q_mB), (f5 1, q_i cA 0 6 q_mH), (f5 2, q_i cA 0 24 q_mZ)] := hD
  refine lv_iinc (v := 5) (lv' := [(1, .int 5), (0, .ref h0)]) hx hb dq185_44 hl (k := 0) rfl (by decide) (by decide) rfl (fun ls hl => ?_)
  refine lv_goto (tgt := 25) hx hb dq185_47 (by decide) ?_
  refine lv_iload_n hx hb dq185_25 rfl (lv_at hl 0 rfl) ?_
  refine lv_bipush (v := 6) hx hb dq185_26 (by decide) ?_
  refine lv_icmp_ge (tgt := 50) hx hb dq185_28 (by decide) (fun cq => absurd cq (by decide)) (fun cq => ?_)
  refine lv_aload_n hx hb dq185_31 rfl (lv_at hl 1 rfl) ?_
  refine va_get (D := D) (ci := 1) (v := .ref q7) (C := fd_R1) (T := fd_T1) (N := 3) hx hb hts fd_u1 hown hK hP 0 rfl rfl 0 (by decide) (hts (.fieldLink "FoldedStrips$History" 11 "FoldedStrips$History" "states" "[LFoldedStrips$Strip;") (fd_mem 99 (by decide +kernel))) (fun _ h9 => h9) rfl dq185_32 ?_
  refine lv_iload_n hx hb dq185_35 rfl (lv_at hl 0 rfl) ?_
  refine q_make (own := fd_R1) (C := fd_R5) (T := fd_T5) (N := 3) (c_Strip l hty) hx hb hml hown hts hK hE hP hD hS hA (fd_mem 96 (by decide +kernel)) (fd_mem 28 (by decide +kernel)) (fd_mem 10 (by decide +kernel)) rfl fd_u5 fd_ty5 fd_t5 (fun j hj => by rcases (show j = 0 ∨ j = 1 ∨ j = 2 by omega) with rfl | rfl | rfl <;> rfl) (Or.inl (fd_mem 98 (by decide +kernel))) (fd_mem 31 (by decide +kernel)) (fd_mem 30 (by decide +kernel)) rfl rfl rfl (by decide +kernel) (Nat.le_of_ble_eq_true rfl) (Nat.le_of_ble_eq_true rfl) (Nat.le_of_ble_eq_true rfl) (Nat.le_of_ble_eq_true rfl) (Nat.le_of_ble_eq_true rfl) hl.1 dq185_36 dq185_39 dq185_40 (fun n6 f6 H locs hP hD hS => ?_)
  have hP : va_P D fd_cl [(h0, .inr (1, [.ref q7, .int (Int32.ofInt 0), .int (Int32.ofInt 0)])), (q7, q_r cA 6 (va_up (va_up (va_up (va_up (va_up (fun _ => none) 0 (some n1)) 1 (some n2)) 2 (some n3)) 3 (some n4)) 4 (some n5))), (n1, .inr (5, [.ref (f1 0), .ref (f1 1), .ref (f1 2)])), (f1 0, q_i cA 0 144 q_mB), (f1 1, q_i cA 0 6 q_mH), (f1 2, q_i cA 0 24 q_mZ), (n2, .inr (5, [.ref (f2 0), .ref (f2 1), .ref (f2 2)])), (f2 0, q_i cA 0 144 q_mB), (f2 1, q_i cA 0 6 q_mH), (f2 2, q_i cA 0 24 q_mZ), (n3, .inr (5, [.ref (f3 0), .ref (f3 1), .ref (f3 2)])), (f3 0, q_i cA 0 144 q_mB), (f3 1, q_i cA 0 6 q_mH), (f3 2, q_i cA 0 24 q_mZ), (n4, .inr (5, [.ref (f4 0), .ref (f4 1), .ref (f4 2)])), (f4 0, q_i cA 0 144 q_mB), (f4 1, q_i cA 0 6 q_mH), (f4 2, q_i cA 0 24 q_mZ), (n5, .inr (5, [.ref (f5 0), .ref (f5 1), .ref (f5 2)])), (f5 0, q_i cA 0 144 q_mB), (f5 1, q_i cA 0 6 q_mH), (f5 2, q_i cA 0 24 q_mZ), (n6, .inr (5, [.ref (f6 0), .ref (f6 1), .ref (f6 2)])), (f6 0, q_i cA 0 144 q_mB), (f6 1, q_i cA 0 6 q_mH), (f6 2, q_i cA 0 24 q_mZ)] H := hP
  have hD : va_D A [(h0, .inr (1, [.ref q7, .int (Int32.ofInt 0), .int (Int32.ofInt 0)])), (q7, q_r cA 6 (va_up (va_up (va_up (va_up (va_up (fun _ => none) 0 (some n1)) 1 (some n2)) 2 (some n3)) 3 (some n4)) 4 (some n5))), (n1, .inr (5, [.ref (f1 0), .ref (f1 1), .ref (f1 2)])), (f1 0, q_i cA 0 144 q_mB), (f1 1, q_i cA 0 6 q_mH), (f1 2, q_i cA 0 24 q_mZ), (n2, .inr (5, [.ref (f2 0), .ref (f2 1), .ref (f2 2)])), (f2 0, q_i cA 0 144 q_mB), (f2 1, q_i cA 0 6 q_mH), (f2 2, q_i cA 0 24 q_mZ), (n3, .inr (5, [.ref (f3 0), .ref (f3 1), .ref (f3 2)])), (f3 0, q_i cA 0 144 q_mB), (f3 1, q_i cA 0 6 q_mH), (f3 2, q_i cA 0 24 q_mZ), (n4, .inr (5, [.ref (f4 0), .ref (f4 1), .ref (f4 2)])), (f4 0, q_i cA 0 144 q_mB), (f4 1, q_i cA 0 6 q_mH), (f4 2, q_i cA 0 24 q_mZ), (n5, .inr (5, [.ref (f5 0), .ref (f5 1), .ref (f5 2)])), (f5 0, q_i cA 0 144 q_mB), (f5 1, q_i cA 0 6 q_mH), (f5 2, q_i cA 0 24 q_mZ), (n6, .inr (5, [.ref (f6 0), .ref (f6 1), .ref (f6 2)])), (f6 0, q_i cA 0 144 q_mB), (f6 1, q_i cA 0 6 q_mH), (f6 2, q_i cA 0 24 q_mZ)] := hD
  refine W.widen (k := 25) (n := 1068) (Nat.le_of_ble_eq_true rfl) (Nat.le_of_ble_eq_true rfl) ?_
  refine va_astq (D := D) hx hb hK hP hD hS 1 3 22 5 rfl hty.2.2.2 rfl rfl (i := 5) (vp_in_iff.mpr (by decide)) dq185_43 (fun H locs hP hD hS => ?_)
  have hP : va_P D fd_cl [(h0, .inr (1, [.ref q7, .int (Int32.ofInt 0), .int (Int32.ofInt 0)])), (q7, q_r cA 6 (va_up (va_up (va_up (va_up (va_up (va_up (fun _ => none) 0 (some n1)) 1 (some n2)) 2 (some n3)) 3 (some n4)) 4 (some n5)) 5 (some n6))), (n1, .inr (5, [.ref (f1 0), .ref (f1 1), .ref (f1 2)])), (f1 0, q_i cA 0 144 q_mB), (f1 1, q_i cA 0 6 q_mH), (f1 2, q_i cA 0 24 q_mZ), (n2, .inr (5, [.ref (f2 0), .ref (f2 1), .ref (f2 2)])), (f2 0, q_i cA 0 144 q_mB), (f2 1, q_i cA 0 6 q_mH), (f2 2, q_i cA 0 24 q_mZ), (n3, .inr (5, [.ref (f3 0), .ref (f3 1), .ref (f3 2)])), (f3 0, q_i cA 0 144 q_mB), (f3 1, q_i cA 0 6 q_mH), (f3 2, q_i cA 0 24 q_mZ), (n4, .inr (5, [.ref (f4 0), .ref (f4 1), .ref (f4 2)])), (f4 0, q_i cA 0 144 q_mB), (f4 1, q_i cA 0 6 q_mH), (f4 2, q_i cA 0 24 q_mZ), (n5, .inr (5, [.ref (f5 0), .ref (f5 1), .ref (f5 2)])), (f5 0, q_i cA 0 144 q_mB), (f5 1, q_i cA 0 6 q_mH), (f5 2, q_i cA 0 24 q_mZ), (n6, .inr (5, [.ref (f6 0), .ref (f6 1), .ref (f6 2)])), (f6 0, q_i cA 0 144 q_mB), (f6 1, q_i cA 0 6 q_mH), (f6 2, q_i cA 0 24 q_mZ)] H := hP
  have hD : va_D A [(h0, .inr (1, [.ref q7, .int (Int32.ofInt 0), .int (Int32.ofInt 0)])), (q7, q_r cA 6 (va_up (va_up (va_up (va_up (va_up (va_up (fun _ => none) 0 (some n1)) 1 (some n2)) 2 (some n3)) 3 (some n4)) 4 (some n5)) 5 (some n6))), (n1, .inr (5, [.ref (f1 0), .ref (f1 1), .ref (f1 2)])), (f1 0, q_i cA 0 144 q_mB), (f1 1, q_i cA 0 6 q_mH), (f1 2, q_i cA 0 24 q_mZ), (n2, .inr (5, [.ref (f2 0), .ref (f2 1), .ref (f2 2)])), (f2 0, q_i cA 0 144 q_mB), (f2 1, q_i cA 0 6 q_mH), (f2 2, q_i cA 0 24 q_mZ), (n3, .inr (5, [.ref (f3 0), .ref (f3 1), .ref (f3 2)])), (f3 0, q_i cA 0 144 q_mB), (f3 1, q_i cA 0 6 q_mH), (f3 2, q_i cA 0 24 q_mZ), (n4, .inr (5, [.ref (f4 0), .ref (f4 1), .ref (f4 2)])), (f4 0, q_i cA 0 144 q_mB), (f4 1, q_i cA 0 6 q_mH), (f4 2, q_i cA 0 24 q_mZ), (n5, .inr (5, [.ref (f5 0), .ref (f5 1), .ref (f5 2)])), (f5 0, q_i cA 0 144 q_mB), (f5 1, q_i cA 0 6 q_mH), (f5 2, q_i cA 0 24 q_mZ), (n6, .inr (5, [.ref (f6 0), .ref (f6 1), .ref (f6 2)])), (f6 0, q_i cA 0 144 q_mB), (f6 1, q_i cA 0 6 q_mH), (f6 2, q_i cA 0 24 q_mZ)] := hD
  refine lv_iinc (v := 6) (lv' := [(1, .int 6), (0, .ref h0)]) hx hb dq185_44 hl (k := 0) rfl (by decide) (by decide) rfl (fun ls hl => ?_)
  refine lv_goto (tgt := 25) hx hb dq185_47 (by decide) ?_
  refine lv_iload_n hx hb dq185_25 rfl (lv_at hl 0 rfl) ?_
  refine lv_bipush (v := 6) hx hb dq185_26 (by decide) ?_
  refine lv_icmp_ge (tgt := 50) hx hb dq185_28 (by decide) (fun cq => ?_) (fun cq => absurd (by decide) cq)
  have hg : (va_up (va_up (va_up (va_up (va_up (va_up (fun _ => none) 0 (some n1)) 1 (some n2)) 2 (some n3)) 3 (some n4)) 4 (some n5)) 5 (some n6)) = (fun j => (([2, 6, 10, 14, 18, 22] : List Nat)[j]?).map (q_ad h0 (fun k => [q7, n1, f1 0, f1 1, f1 2, n2, f2 0, f2 1, f2 2, n3, f3 0, f3 1, f3 2, n4, f4 0, f4 1, f4 2, n5, f5 0, f5 1, f5 2, n6, f6 0, f6 1, f6 2].getD k 0))) := by
    funext j
    match j with
    | 0 => rfl
    | 1 => rfl
    | 2 => rfl
    | 3 => rfl
    | 4 => rfl
    | 5 => rfl
    | j + 6 => simp [va_up]
  rw [hg] at hP hD
  have hP9 : va_P D fd_cl (fx_wl (q_ad h0 (fun k => [q7, n1, f1 0, f1 1, f1 2, n2, f2 0, f2 1, f2 2, n3, f3 0, f3 1, f3 2, n4, f4 0, f4 1, f4 2, n5, f5 0, f5 1, f5 2, n6, f6 0, f6 1, f6 2].getD k 0)) cA q_SY q_MY) H := hP
  have hD9 : va_D A (fx_wl (q_ad h0 (fun k => [q7, n1, f1 0, f1 1, f1 2, n2, f2 0, f2 1, f2 2, n3, f3 0, f3 1, f3 2, n4, f4 0, f4 1, f4 2, n5, f5 0, f5 1, f5 2, n6, f6 0, f6 1, f6 2].getD k 0)) cA q_SY q_MY) := hD
  exact W.vret hx hb hr (fun t ht hW => ⟨⟨(fun k => [q7, n1, f1 0, f1 1, f1 2, n2, f2 0, f2 1, f2 2, n3, f3 0, f3 1, f3 2, n4, f4 0, f4 1, f4 2, n5, f5 0, f5 1, f5 2, n6, f6 0, f6 1, f6 2].getD k 0), rfl, trivial, by rw [ht]; exact hP9, hD9⟩, hS.F ht⟩) hS.2.2 dq185_50
theorem dq188_0 : decode prog_5_method_1_code 0 = .ok (.aload_n 0, 1) := by decide +kernel
theorem dq188_1 : decode prog_5_method_1_code 1 = .ok (.invokespecial 3, 3) := by decide +kernel
theorem dq188_4 : decode prog_5_method_1_code 4 = .ok (.aload_n 0, 1) := by decide +kernel
theorem dq188_5 : decode prog_5_method_1_code 5 = .ok (.iconst 2, 1) := by decide +kernel
theorem dq188_6 : decode prog_5_method_1_code 6 = .ok (.anewarray 9, 3) := by decide +kernel
theorem dq188_9 : decode prog_5_method_1_code 9 = .ok (.putfield 11, 3) := by decide +kernel
theorem dq188_12 : decode prog_5_method_1_code 12 = .ok (.aload_n 0, 1) := by decide +kernel
theorem dq188_13 : decode prog_5_method_1_code 13 = .ok (.iconst 2, 1) := by decide +kernel
theorem dq188_14 : decode prog_5_method_1_code 14 = .ok (.newarray .boolean, 2) := by decide +kernel
theorem dq188_16 : decode prog_5_method_1_code 16 = .ok (.putfield 17, 3) := by decide +kernel
theorem dq188_19 : decode prog_5_method_1_code 19 = .ok (.iconst 0, 1) := by decide +kernel
theorem dq188_20 : decode prog_5_method_1_code 20 = .ok (.istore_n 1, 1) := by decide +kernel
theorem dq188_21 : decode prog_5_method_1_code 21 = .ok (.iload_n 1, 1) := by decide +kernel
theorem dq188_22 : decode prog_5_method_1_code 22 = .ok (.iconst 2, 1) := by decide +kernel
theorem dq188_23 : decode prog_5_method_1_code 23 = .ok (.if_icmp .ge 22, 3) := by decide +kernel
theorem dq188_26 : decode prog_5_method_1_code 26 = .ok (.aload_n 0, 1) := by decide +kernel
theorem dq188_27 : decode prog_5_method_1_code 27 = .ok (.getfield 11, 3) := by decide +kernel
theorem dq188_30 : decode prog_5_method_1_code 30 = .ok (.iload_n 1, 1) := by decide +kernel
theorem dq188_31 : decode prog_5_method_1_code 31 = .ok (.new 9, 3) := by decide +kernel
theorem dq188_34 : decode prog_5_method_1_code 34 = .ok (.dup, 1) := by decide +kernel
theorem dq188_35 : decode prog_5_method_1_code 35 = .ok (.invokespecial 21, 3) := by decide +kernel
theorem dq188_38 : decode prog_5_method_1_code 38 = .ok (.aastore, 1) := by decide +kernel
theorem dq188_39 : decode prog_5_method_1_code 39 = .ok (.iinc 1 1, 3) := by decide +kernel
theorem dq188_42 : decode prog_5_method_1_code 42 = .ok (.goto (-21), 3) := by decide +kernel
theorem dq188_45 : decode prog_5_method_1_code 45 = .ok (.return_, 1) := by decide +kernel
set_option maxHeartbeats 8000000 in
set_option maxRecDepth 100000 in
theorem c_Slots (l : Launch) {D : va_G} {tys : List (ClassId × FieldType)} {cA : Nat → ClassId} (hty : fx_Ty tys cA "FoldedStrips$Strip") : q_MC l D tys 188 2 33 4 [.null, .null] (fun h0 f => fx_wl (q_ad h0 f) cA q_SO q_MO) 10 358 := by
  intro h0 sz
  refine Met.ofW (cc := prog_5_method_1_code) (maxL := 2) (ret := none) (by decide +kernel) rfl ?_
  intro p e s m args below meth c s₁ B hml hv
  obtain ⟨rfl, hsz, hP, hK, hD0, hE⟩ := hv
  have hx := B.exec
  have hb : c.code = prog_5_method_1_code := B.bytes
  have hr : meth.sig.returnType = none := B.returns
  have hts0 := atoms_spec (ws := fx_ws fd_TG fd_G fd_y fd_b 188) B.pre
  have hts : ∀ w ∈ fd_TG, w.before #[Value.ref h0] s = true := fun w hw => hts0 w (List.mem_cons_of_mem _ hw)
  have hown : s.vm.findClass fd_R4 = some m.cls := findClass_of_methodNamed B.named
  have hlocks := B.notSynchronized
  have hin : meth.name = "<init>" := (name_of_methodNamed B.named B.method).1
  subst hsz
  have hD := hD0.self (sz := s.heap.size)
  generalize hAe : va_A [(h0, .inr (4, [.null, .null]))] s.heap.size = A at hD ⊢
  have hA : ∀ q : Nat, s.heap.size ≤ q → A q := fun q h => by rw [← hAe]; exact Or.inr h
  have hS : va_S A s.heap s.heap [] := va_S.rf
  have hP : va_P D fd_cl [(h0, .inr (4, [.null, .null]))] s.heap := hP
  have hl := lv_entry ([.ref h0]) (n := 2) (Nat.le_of_ble_eq_true rfl)
  rw [lg_entry_eq]
  generalize (lg_sl ([.ref h0]) ++ List.replicate (2 - (lg_sl ([.ref h0])).length) Slot.unset).toArray = ls at hl ⊢
  have hl : lv_has ls 2 [(0, .ref h0)] := hl
  refine lv_aload_n hx hb dq188_0 rfl (lv_at hl 0 rfl) ?_
  refine W.objInit hx hb hown (hts _ (fd_mem 114 (by decide +kernel))) (hts _ (fd_mem 25 (by decide +kernel))) (hts _ (fd_mem 26 (by decide +kernel))) rfl (by rw [hml]; exact hl.1) rfl dq188_1 (Nat.le_of_ble_eq_true rfl) (Nat.le_of_ble_eq_true rfl) ?_
  refine W.eq (g2 := F0 m 4 ls []) rfl ?_
  refine lv_aload_n hx hb dq188_4 rfl (lv_at hl 0 rfl) ?_
  refine lv_iconst (v := 2) hx hb dq188_5 (by decide) ?_
  refine q_newq (C := "FoldedStrips$Strip") (cA := cA 9) (N' := 2) hx hb hown (hts _ (fd_mem 115 (by decide +kernel))) hE.1 hK hP hD hS hA 3 hty.2.2.2 (by decide) (by decide) (Nat.le_of_ble_eq_true rfl) (Nat.le_of_ble_eq_true rfl) (Nat.le_of_ble_eq_true rfl) dq188_6 (fun q6 H hP hD hS => ?_)
  have hP : va_P D fd_cl [(h0, .inr (4, [.null, .null])), (q6, q_r cA 2 (fun _ => none))] H := hP
  have hD : va_D A [(h0, .inr (4, [.null, .null])), (q6, q_r cA 2 (fun _ => none))] := hD
  refine W.widen (k := 1) (n := 2) (Nat.le_of_ble_eq_true rfl) (Nat.le_of_ble_eq_true rfl) ?_
  refine va_putF (D := D) (ci := 4) (v := .ref q6) (ty := .array (.object "FoldedStrips$Strip")) (C := fd_R4) (T := fd_T4) (N := 2) hx hb hts fd_u4 fd_ty4 fd_t4 fd_n4 hown hK hP hD hS 0 rfl rfl 0 (by decide) (hts (.fieldLink "FoldedStrips$Slots" 11 "FoldedStrips$Slots" "kept" "[LFoldedStrips$Strip;") (fd_mem 117 (by decide +kernel))) (fun _ h9 => h9) rfl hin rfl (by decide +kernel) rfl rfl (Nat.le_of_ble_eq_true rfl) dq188_9 (fun H locs hP hD hS => ?_)
  have hP : va_P D fd_cl [(h0, .inr (4, [.ref q6, .null])), (q6, q_r cA 2 (fun _ => none))] H := hP
  have hD : va_D A [(h0, .inr (4, [.ref q6, .null])), (q6, q_r cA 2 (fun _ => none))] := hD
  refine lv_aload_n hx hb dq188_12 rfl (lv_at hl 0 rfl) ?_
  refine lv_iconst (v := 2) hx hb dq188_13 (by decide) ?_
  refine q_newa (atype := .boolean) (a0 := (2, .inl (fun j => Int32.ofInt (q_mZ j)))) (cA := cA 1) (ty := .boolean) (N' := 2) hx hb (hts _ (fd_mem 75 (by decide +kernel))) rfl hK hP hD hS hA 1 hty.2.1 (fun _ => rfl) (by decide) (by decide) (Nat.le_of_ble_eq_true rfl) (Nat.le_of_ble_eq_true rfl) (Nat.le_of_ble_eq_true rfl) dq188_14 (fun q14 H hP hD hS => ?_)
  have hP : va_P D fd_cl [(h0, .inr (4, [.ref q6, .null])), (q6, q_r cA 2 (fun _ => none)), (q14, q_i cA 1 2 q_mZ)] H := hP
  have hD : va_D A [(h0, .inr (4, [.ref q6, .null])), (q6, q_r cA 2 (fun _ => none)), (q14, q_i cA 1 2 q_mZ)] := hD
  refine W.widen (k := 2) (n := 4) (Nat.le_of_ble_eq_true rfl) (Nat.le_of_ble_eq_true rfl) ?_
  refine va_putF (D := D) (ci := 4) (v := .ref q14) (ty := .array .boolean) (C := fd_R4) (T := fd_T4) (N := 2) hx hb hts fd_u4 fd_ty4 fd_t4 fd_n4 hown hK hP hD hS 0 rfl rfl 1 (by decide) (hts (.fieldLink "FoldedStrips$Slots" 17 "FoldedStrips$Slots" "used" "[Z") (fd_mem 118 (by decide +kernel))) (fun _ h9 => h9) rfl hin rfl (by decide +kernel) rfl rfl (Nat.le_of_ble_eq_true rfl) dq188_16 (fun H locs hP hD hS => ?_)
  have hP : va_P D fd_cl [(h0, .inr (4, [.ref q6, .ref q14])), (q6, q_r cA 2 (fun _ => none)), (q14, q_i cA 1 2 q_mZ)] H := hP
  have hD : va_D A [(h0, .inr (4, [.ref q6, .ref q14])), (q6, q_r cA 2 (fun _ => none)), (q14, q_i cA 1 2 q_mZ)] := hD
  refine lv_iconst (v := 0) hx hb dq188_19 (by decide) ?_
  refine lv_istore_n (lv' := [(1, .int 0), (0, .ref h0)]) hx hb dq188_20 rfl hl (by decide) rfl (fun ls hl => ?_)
  refine lv_iload_n hx hb dq188_21 rfl (lv_at hl 0 rfl) ?_
  refine lv_iconst (v := 2) hx hb dq188_22 (by decide) ?_
  refine lv_icmp_ge (tgt := 45) hx hb dq188_23 (by decide) (fun cq => absurd cq (by decide)) (fun cq => ?_)
  refine lv_aload_n hx hb dq188_26 rfl (lv_at hl 1 rfl) ?_
  refine va_get (D := D) (ci := 4) (v := .ref q6) (C := fd_R4) (T := fd_T4) (N := 2) hx hb hts fd_u4 hown hK hP 0 rfl rfl 0 (by decide) (hts (.fieldLink "FoldedStrips$Slots" 11 "FoldedStrips$Slots" "kept" "[LFoldedStrips$Strip;") (fd_mem 117 (by decide +kernel))) (fun _ h9 => h9) rfl dq188_27 ?_
  refine lv_iload_n hx hb dq188_30 rfl (lv_at hl 0 rfl) ?_
  refine q_make (own := fd_R4) (C := fd_R5) (T := fd_T5) (N := 3) (c_Strip l hty) hx hb hml hown hts hK hE hP hD hS hA (fd_mem 115 (by decide +kernel)) (fd_mem 28 (by decide +kernel)) (fd_mem 10 (by decide +kernel)) rfl fd_u5 fd_ty5 fd_t5 (fun j hj => by rcases (show j = 0 ∨ j = 1 ∨ j = 2 by omega) with rfl | rfl | rfl <;> rfl) (Or.inl (fd_mem 116 (by decide +kernel))) (fd_mem 31 (by decide +kernel)) (fd_mem 30 (by decide +kernel)) rfl rfl rfl (by decide +kernel) (Nat.le_of_ble_eq_true rfl) (Nat.le_of_ble_eq_true rfl) (Nat.le_of_ble_eq_true rfl) (Nat.le_of_ble_eq_true rfl) (Nat.le_of_ble_eq_true rfl) hl.1 dq188_31 dq188_34 dq188_35 (fun n1 f1 H locs hP hD hS => ?_)
  have hP : va_P D fd_cl [(h0, .inr (4, [.ref q6, .ref q14])), (q6, q_r cA 2 (fun _ => none)), (q14, q_i cA 1 2 q_mZ), (n1, .inr (5, [.ref (f1 0), .ref (f1 1), .ref (f1 2)])), (f1 0, q_i cA 0 144 q_mB), (f1 1, q_i cA 0 6 q_mH), (f1 2, q_i cA 0 24 q_mZ)] H := hP
  have hD : va_D A [(h0, .inr (4, [.ref q6, .ref q14])), (q6, q_r cA 2 (fun _ => none)), (q14, q_i cA 1 2 q_mZ), (n1, .inr (5, [.ref (f1 0), .ref (f1 1), .ref (f1 2)])), (f1 0, q_i cA 0 144 q_mB), (f1 1, q_i cA 0 6 q_mH), (f1 2, q_i cA 0 24 q_mZ)] := hD
  refine W.widen (k := 6) (n := 181) (Nat.le_of_ble_eq_true rfl) (Nat.le_of_ble_eq_true rfl) ?_
  refine va_astq (D := D) hx hb hK hP hD hS 1 3 3 5 rfl hty.2.2.2 rfl rfl (i := 0) (vp_in_iff.mpr (by decide)) dq188_38 (fun H locs hP hD hS => ?_)
  have hP : va_P D fd_cl [(h0, .inr (4, [.ref q6, .ref q14])), (q6, q_r cA 2 (va_up (fun _ => none) 0 (some n1))), (q14, q_i cA 1 2 q_mZ), (n1, .inr (5, [.ref (f1 0), .ref (f1 1), .ref (f1 2)])), (f1 0, q_i cA 0 144 q_mB), (f1 1, q_i cA 0 6 q_mH), (f1 2, q_i cA 0 24 q_mZ)] H := hP
  have hD : va_D A [(h0, .inr (4, [.ref q6, .ref q14])), (q6, q_r cA 2 (va_up (fun _ => none) 0 (some n1))), (q14, q_i cA 1 2 q_mZ), (n1, .inr (5, [.ref (f1 0), .ref (f1 1), .ref (f1 2)])), (f1 0, q_i cA 0 144 q_mB), (f1 1, q_i cA 0 6 q_mH), (f1 2, q_i cA 0 24 q_mZ)] := hD
  refine lv_iinc (v := 1) (lv' := [(1, .int 1), (0, .ref h0)]) hx hb dq188_39 hl (k := 0) rfl (by decide) (by decide) rfl (fun ls hl => ?_)
  refine lv_goto (tgt := 21) hx hb dq188_42 (by decide) ?_
  refine lv_iload_n hx hb dq188_21 rfl (lv_at hl 0 rfl) ?_
  refine lv_iconst (v := 2) hx hb dq188_22 (by decide) ?_
  refine lv_icmp_ge (tgt := 45) hx hb dq188_23 (by decide) (fun cq => absurd cq (by decide)) (fun cq => ?_)
  refine lv_aload_n hx hb dq188_26 rfl (lv_at hl 1 rfl) ?_
  refine va_get (D := D) (ci := 4) (v := .ref q6) (C := fd_R4) (T := fd_T4) (N := 2) hx hb hts fd_u4 hown hK hP 0 rfl rfl 0 (by decide) (hts (.fieldLink "FoldedStrips$Slots" 11 "FoldedStrips$Slots" "kept" "[LFoldedStrips$Strip;") (fd_mem 117 (by decide +kernel))) (fun _ h9 => h9) rfl dq188_27 ?_
  refine lv_iload_n hx hb dq188_30 rfl (lv_at hl 0 rfl) ?_
  refine q_make (own := fd_R4) (C := fd_R5) (T := fd_T5) (N := 3) (c_Strip l hty) hx hb hml hown hts hK hE hP hD hS hA (fd_mem 115 (by decide +kernel)) (fd_mem 28 (by decide +kernel)) (fd_mem 10 (by decide +kernel)) rfl fd_u5 fd_ty5 fd_t5 (fun j hj => by rcases (show j = 0 ∨ j = 1 ∨ j = 2 by omega) with rfl | rfl | rfl <;> rfl) (Or.inl (fd_mem 116 (by decide +kernel))) (fd_mem 31 (by decide +kernel)) (fd_mem 30 (by decide +kernel)) rfl rfl rfl (by decide +kernel) (Nat.le_of_ble_eq_true rfl) (Nat.le_of_ble_eq_true rfl) (Nat.le_of_ble_eq_true rfl) (Nat.le_of_ble_eq_true rfl) (Nat.le_of_ble_eq_true rfl) hl.1 dq188_31 dq188_34 dq188_35 (fun n2 f2 H locs hP hD hS => ?_)
  have hP : va_P D fd_cl [(h0, .inr (4, [.ref q6, .ref q14])), (q6, q_r cA 2 (va_up (fun _ => none) 0 (some n1))), (q14, q_i cA 1 2 q_mZ), (n1, .inr (5, [.ref (f1 0), .ref (f1 1), .ref (f1 2)])), (f1 0, q_i cA 0 144 q_mB), (f1 1, q_i cA 0 6 q_mH), (f1 2, q_i cA 0 24 q_mZ), (n2, .inr (5, [.ref (f2 0), .ref (f2 1), .ref (f2 2)])), (f2 0, q_i cA 0 144 q_mB), (f2 1, q_i cA 0 6 q_mH), (f2 2, q_i cA 0 24 q_mZ)] H := hP
  have hD : va_D A [(h0, .inr (4, [.ref q6, .ref q14])), (q6, q_r cA 2 (va_up (fun _ => none) 0 (some n1))), (q14, q_i cA 1 2 q_mZ), (n1, .inr (5, [.ref (f1 0), .ref (f1 1), .ref (f1 2)])), (f1 0, q_i cA 0 144 q_mB), (f1 1, q_i cA 0 6 q_mH), (f1 2, q_i cA 0 24 q_mZ), (n2, .inr (5, [.ref (f2 0), .ref (f2 1), .ref (f2 2)])), (f2 0, q_i cA 0 144 q_mB), (f2 1, q_i cA 0 6 q_mH), (f2 2, q_i cA 0 24 q_mZ)] := hD
  refine W.widen (k := 10) (n := 358) (Nat.le_of_ble_eq_true rfl) (Nat.le_of_ble_eq_true rfl) ?_
  refine va_astq (D := D) hx hb hK hP hD hS 1 3 7 5 rfl hty.2.2.2 rfl rfl (i := 1) (vp_in_iff.mpr (by decide)) dq188_38 (fun H locs hP hD hS => ?_)
  have hP : va_P D fd_cl [(h0, .inr (4, [.ref q6, .ref q14])), (q6, q_r cA 2 (va_up (va_up (fun _ => none) 0 (some n1)) 1 (some n2))), (q14, q_i cA 1 2 q_mZ), (n1, .inr (5, [.ref (f1 0), .ref (f1 1), .ref (f1 2)])), (f1 0, q_i cA 0 144 q_mB), (f1 1, q_i cA 0 6 q_mH), (f1 2, q_i cA 0 24 q_mZ), (n2, .inr (5, [.ref (f2 0), .ref (f2 1), .ref (f2 2)])), (f2 0, q_i cA 0 144 q_mB), (f2 1, q_i cA 0 6 q_mH), (f2 2, q_i cA 0 24 q_mZ)] H := hP
  have hD : va_D A [(h0, .inr (4, [.ref q6, .ref q14])), (q6, q_r cA 2 (va_up (va_up (fun _ => none) 0 (some n1)) 1 (some n2))), (q14, q_i cA 1 2 q_mZ), (n1, .inr (5, [.ref (f1 0), .ref (f1 1), .ref (f1 2)])), (f1 0, q_i cA 0 144 q_mB), (f1 1, q_i cA 0 6 q_mH), (f1 2, q_i cA 0 24 q_mZ), (n2, .inr (5, [.ref (f2 0), .ref (f2 1), .ref (f2 2)])), (f2 0, q_i cA 0 144 q_mB), (f2 1, q_i cA 0 6 q_mH), (f2 2, q_i cA 0 24 q_mZ)] := hD
  refine lv_iinc (v := 2) (lv' := [(1, .int 2), (0, .ref h0)]) hx hb dq188_39 hl (k := 0) rfl (by decide) (by decide) rfl (fun ls hl => ?_)
  refine lv_goto (tgt := 21) hx hb dq188_42 (by decide) ?_
  refine lv_iload_n hx hb dq188_21 rfl (lv_at hl 0 rfl) ?_
  refine lv_iconst (v := 2) hx hb dq188_22 (by decide) ?_
  refine lv_icmp_ge (tgt := 45) hx hb dq188_23 (by decide) (fun cq => ?_) (fun cq => absurd (by decide) cq)
  have hg : (va_up (va_up (fun _ => none) 0 (some n1)) 1 (some n2)) = (fun j => (([3, 7] : List Nat)[j]?).map (q_ad h0 (fun k => [q6, q14, n1, f1 0, f1 1, f1 2, n2, f2 0, f2 1, f2 2].getD k 0))) := by
    funext j
    match j with
    | 0 => rfl
    | 1 => rfl
    | j + 2 => simp [va_up]
  rw [hg] at hP hD
  have hP9 : va_P D fd_cl (fx_wl (q_ad h0 (fun k => [q6, q14, n1, f1 0, f1 1, f1 2, n2, f2 0, f2 1, f2 2].getD k 0)) cA q_SO q_MO) H := hP
  have hD9 : va_D A (fx_wl (q_ad h0 (fun k => [q6, q14, n1, f1 0, f1 1, f1 2, n2, f2 0, f2 1, f2 2].getD k 0)) cA q_SO q_MO) := hD
  exact W.vret hx hb hr (fun t ht hW => ⟨⟨(fun k => [q6, q14, n1, f1 0, f1 1, f1 2, n2, f2 0, f2 1, f2 2].getD k 0), rfl, trivial, by rw [ht]; exact hP9, hD9⟩, hS.F ht⟩) hS.2.2 dq188_45

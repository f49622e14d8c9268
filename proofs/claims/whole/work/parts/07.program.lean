theorem fd_Pof {j : Nat} {own : String} {b : ByteArray} {CT CL : List (Nat × Int)} {FT PT : List (Nat × Nat × Nat)} {LT : List (Nat × Nat)} {pcs : List Nat} {rf rl : Nat} {cs : List Instr} {os : List (Instr × Nat)} (h1 : fx_Tab own fd_TG fd_cl CT CL FT PT LT) (h2 : ∀ q ∈ LT, q.2 < 1000000 → fx_MF fd_TG fd_cl fd_G fd_y fd_b fd_PC q.2 ∧ (Jvm.Cond.methodLink own q.1 (fd_y q.2) ∈ fd_TG ∨ ((fd_G q.2).2.2.2 = none ∧ ∃ host, (own, q.1, fd_y q.2, host) ∈ fd_NW)))
    (h3 : fd_chk CT CL FT PT LT pcs rf rl b 0 cs os = true) (e1 : (fd_y j).cls = own) (e2 : fd_CT j = CT) (e3 : fd_CL j = CL) (e4 : fd_FT j = FT) (e5 : fd_PT j = PT) (e6 : fd_LT j = LT) (e7 : fd_PC j = pcs) (e8 : fd_RO j = (rf, rl)) (e9 : fd_b j = b) (e10 : fd_C j = cs) : fd_P j := by
  unfold fd_P
  rw [e1, e2, e3, e4, e5, e6, e7, e8, e9, e10]
  refine ⟨fun i mm hi => ⟨h1, ?_⟩, fun idx k hk hn => h2 (idx, k) hk hn⟩
  have := fd_chk_get h3 hi
  rwa [Nat.zero_add] at this
theorem fd_Pof2 {j : Nat} {own : String} {b : ByteArray} {CT CL : List (Nat × Int)} {FT PT : List (Nat × Nat × Nat)} {LT : List (Nat × Nat)} {pcs : List Nat} {rf rl : Nat} {cs : List Instr} {os : List (Instr × Nat)} (n : Nat) (hn : cs.length ≤ 30 * n) (h1 : fx_Tab own fd_TG fd_cl CT CL FT PT LT) (h2 : ∀ q ∈ LT, q.2 < 1000000 → fx_MF fd_TG fd_cl fd_G fd_y fd_b fd_PC q.2 ∧ (Jvm.Cond.methodLink own q.1 (fd_y q.2) ∈ fd_TG ∨ ((fd_G q.2).2.2.2 = none ∧ ∃ host, (own, q.1, fd_y q.2, host) ∈ fd_NW)))
    (h3 : ∀ q, q < n → fd_chk CT CL FT PT LT pcs rf rl b (30 * q) ((cs.drop (30 * q)).take 30) ((os.drop (30 * q)).take 30) = true) (e1 : (fd_y j).cls = own) (e2 : fd_CT j = CT) (e3 : fd_CL j = CL) (e4 : fd_FT j = FT) (e5 : fd_PT j = PT) (e6 : fd_LT j = LT) (e7 : fd_PC j = pcs) (e8 : fd_RO j = (rf, rl)) (e9 : fd_b j = b) (e10 : fd_C j = cs) : fd_P j := by
  unfold fd_P
  rw [e1, e2, e3, e4, e5, e6, e7, e8, e9, e10]
  refine ⟨fun i mm hi => ⟨h1, ?_⟩, fun idx k hk hn => h2 (idx, k) hk hn⟩
  have hl := (List.getElem?_eq_some_iff.mp hi).1
  have := fd_chk_get (h3 (i / 30) (by omega)) (k := i % 30) (mm := mm) (by rw [List.getElem?_take_of_lt (by omega), List.getElem?_drop, show 30 * (i / 30) + i % 30 = i by omega]; exact hi)
  rwa [show 30 * (i / 30) + i % 30 = i by omega] at this
theorem fd_k0 : fd_chk fd_CT0 fd_CL0 fd_FT0 fd_PT0 fd_LT0 fd_p0 6 132 prog_1_method_2_code 0 fd_c0 fd_o0 = true := by decide +kernel
theorem fd_g0 : fd_P 0 := fd_Pof fd_x0 fd_l0 fd_k0 rfl rfl rfl rfl rfl rfl rfl rfl rfl rfl
theorem fd_k1 : fd_chk fd_CT0 fd_CL0 fd_FT0 fd_PT0 fd_LT0 fd_p1 0 0 prog_1_method_28_code 0 fd_c1 fd_o1 = true := by decide +kernel
theorem fd_g1 : fd_P 1 := fd_Pof fd_x0 fd_l0 fd_k1 rfl rfl rfl rfl rfl rfl rfl rfl rfl rfl
theorem fd_k2 : fd_chk fd_CT0 fd_CL0 fd_FT0 fd_PT0 fd_LT0 fd_p2 0 0 prog_1_method_32_code 0 fd_c2 fd_o2 = true := by decide +kernel
theorem fd_g2 : fd_P 2 := fd_Pof fd_x0 fd_l0 fd_k2 rfl rfl rfl rfl rfl rfl rfl rfl rfl rfl
theorem fd_k3 : fd_chk fd_CT0 fd_CL0 fd_FT0 fd_PT0 fd_LT0 fd_p3 0 0 prog_1_method_35_code 0 fd_c3 fd_o3 = true := by decide +kernel
theorem fd_g3 : fd_P 3 := fd_Pof fd_x0 fd_l0 fd_k3 rfl rfl rfl rfl rfl rfl rfl rfl rfl rfl
theorem fd_k4 : fd_chk fd_CT0 fd_CL0 fd_FT0 fd_PT0 fd_LT0 fd_p4 0 0 prog_1_method_29_code 0 fd_c4 fd_o4 = true := by decide +kernel
theorem fd_g4 : fd_P 4 := fd_Pof fd_x0 fd_l0 fd_k4 rfl rfl rfl rfl rfl rfl rfl rfl rfl rfl
theorem fd_k5 : fd_chk fd_CT0 fd_CL0 fd_FT0 fd_PT0 fd_LT0 fd_p5 0 0 prog_1_method_37_code 0 fd_c5 fd_o5 = true := by decide +kernel
theorem fd_g5 : fd_P 5 := fd_Pof fd_x0 fd_l0 fd_k5 rfl rfl rfl rfl rfl rfl rfl rfl rfl rfl
theorem fd_k6 : fd_chk fd_CT0 fd_CL0 fd_FT0 fd_PT0 fd_LT0 fd_p6 0 0 prog_1_method_30_code 0 fd_c6 fd_o6 = true := by decide +kernel
theorem fd_g6 : fd_P 6 := fd_Pof fd_x0 fd_l0 fd_k6 rfl rfl rfl rfl rfl rfl rfl rfl rfl rfl
theorem fd_k7 : fd_chk fd_CT0 fd_CL0 fd_FT0 fd_PT0 fd_LT0 fd_p7 0 0 prog_1_method_38_code 0 fd_c7 fd_o7 = true := by decide +kernel
theorem fd_g7 : fd_P 7 := fd_Pof fd_x0 fd_l0 fd_k7 rfl rfl rfl rfl rfl rfl rfl rfl rfl rfl
theorem fd_k8 : fd_chk fd_CT0 fd_CL0 fd_FT0 fd_PT0 fd_LT0 fd_p8 4 86 prog_1_method_3_code 0 fd_c8 fd_o8 = true := by decide +kernel
theorem fd_g8 : fd_P 8 := fd_Pof fd_x0 fd_l0 fd_k8 rfl rfl rfl rfl rfl rfl rfl rfl rfl rfl
theorem fd_k9 : fd_chk fd_CT0 fd_CL0 fd_FT0 fd_PT0 fd_LT0 fd_p9 3 69 prog_1_method_4_code 0 fd_c9 fd_o9 = true := by decide +kernel
theorem fd_g9 : fd_P 9 := fd_Pof fd_x0 fd_l0 fd_k9 rfl rfl rfl rfl rfl rfl rfl rfl rfl rfl
theorem fd_k10 : fd_chk fd_CT0 fd_CL0 fd_FT0 fd_PT0 fd_LT0 fd_p10 4 86 prog_1_method_5_code 0 fd_c10 fd_o10 = true := by decide +kernel
theorem fd_g10 : fd_P 10 := fd_Pof fd_x0 fd_l0 fd_k10 rfl rfl rfl rfl rfl rfl rfl rfl rfl rfl
theorem fd_k11 : fd_chk fd_CT0 fd_CL0 fd_FT0 fd_PT0 fd_LT0 fd_p11 5 107 prog_1_method_6_code 0 fd_c11 fd_o11 = true := by decide +kernel
theorem fd_g11 : fd_P 11 := fd_Pof fd_x0 fd_l0 fd_k11 rfl rfl rfl rfl rfl rfl rfl rfl rfl rfl
theorem fd_k12 : fd_chk fd_CT0 fd_CL0 fd_FT0 fd_PT0 fd_LT0 fd_p12 5 107 prog_1_method_7_code 0 fd_c12 fd_o12 = true := by decide +kernel
theorem fd_g12 : fd_P 12 := fd_Pof fd_x0 fd_l0 fd_k12 rfl rfl rfl rfl rfl rfl rfl rfl rfl rfl
theorem fd_k13 : fd_chk fd_CT0 fd_CL0 fd_FT0 fd_PT0 fd_LT0 fd_p13 0 0 prog_1_method_33_code 0 fd_c13 fd_o13 = true := by decide +kernel
theorem fd_g13 : fd_P 13 := fd_Pof fd_x0 fd_l0 fd_k13 rfl rfl rfl rfl rfl rfl rfl rfl rfl rfl
theorem fd_k14 : fd_chk fd_CT0 fd_CL0 fd_FT0 fd_PT0 fd_LT0 fd_p14 5 107 prog_1_method_8_code 0 fd_c14 fd_o14 = true := by decide +kernel
theorem fd_g14 : fd_P 14 := fd_Pof fd_x0 fd_l0 fd_k14 rfl rfl rfl rfl rfl rfl rfl rfl rfl rfl
theorem fd_k15 : fd_chk fd_CT0 fd_CL0 fd_FT0 fd_PT0 fd_LT0 fd_p15 6 129 prog_1_method_9_code 0 fd_c15 fd_o15 = true := by decide +kernel
theorem fd_g15 : fd_P 15 := fd_Pof fd_x0 fd_l0 fd_k15 rfl rfl rfl rfl rfl rfl rfl rfl rfl rfl
theorem fd_k16 : fd_chk fd_CT0 fd_CL0 fd_FT0 fd_PT0 fd_LT0 fd_p16 6 138 prog_1_method_10_code 0 fd_c16 fd_o16 = true := by decide +kernel
theorem fd_g16 : fd_P 16 := fd_Pof fd_x0 fd_l0 fd_k16 rfl rfl rfl rfl rfl rfl rfl rfl rfl rfl
theorem fd_k17 : fd_chk fd_CT0 fd_CL0 fd_FT0 fd_PT0 fd_LT0 fd_p17 1 20 prog_1_method_39_code 0 fd_c17 fd_o17 = true := by decide +kernel
theorem fd_g17 : fd_P 17 := fd_Pof fd_x0 fd_l0 fd_k17 rfl rfl rfl rfl rfl rfl rfl rfl rfl rfl
theorem fd_k18 : fd_chk fd_CT0 fd_CL0 fd_FT0 fd_PT0 fd_LT0 fd_p18 0 0 prog_1_method_36_code 0 fd_c18 fd_o18 = true := by decide +kernel
theorem fd_g18 : fd_P 18 := fd_Pof fd_x0 fd_l0 fd_k18 rfl rfl rfl rfl rfl rfl rfl rfl rfl rfl
theorem fd_k19 : fd_chk fd_CT0 fd_CL0 fd_FT0 fd_PT0 fd_LT0 fd_p19 6 138 prog_1_method_11_code 0 fd_c19 fd_o19 = true := by decide +kernel
theorem fd_g19 : fd_P 19 := fd_Pof fd_x0 fd_l0 fd_k19 rfl rfl rfl rfl rfl rfl rfl rfl rfl rfl
theorem fd_k20 : fd_chk fd_CT0 fd_CL0 fd_FT0 fd_PT0 fd_LT0 fd_p20 5 106 prog_1_method_12_code 0 fd_c20 fd_o20 = true := by decide +kernel
theorem fd_g20 : fd_P 20 := fd_Pof fd_x0 fd_l0 fd_k20 rfl rfl rfl rfl rfl rfl rfl rfl rfl rfl
theorem fd_k21 : fd_chk fd_CT0 fd_CL0 fd_FT0 fd_PT0 fd_LT0 fd_p21 0 0 prog_1_method_31_code 0 fd_c21 fd_o21 = true := by decide +kernel
theorem fd_g21 : fd_P 21 := fd_Pof fd_x0 fd_l0 fd_k21 rfl rfl rfl rfl rfl rfl rfl rfl rfl rfl
theorem fd_k22 : fd_chk fd_CT0 fd_CL0 fd_FT0 fd_PT0 fd_LT0 fd_p22 6 129 prog_1_method_13_code 0 fd_c22 fd_o22 = true := by decide +kernel
theorem fd_g22 : fd_P 22 := fd_Pof fd_x0 fd_l0 fd_k22 rfl rfl rfl rfl rfl rfl rfl rfl rfl rfl
theorem fd_k23 : fd_chk fd_CT0 fd_CL0 fd_FT0 fd_PT0 fd_LT0 fd_p23 6 138 prog_1_method_14_code 0 fd_c23 fd_o23 = true := by decide +kernel
theorem fd_g23 : fd_P 23 := fd_Pof fd_x0 fd_l0 fd_k23 rfl rfl rfl rfl rfl rfl rfl rfl rfl rfl
theorem fd_k24 : fd_chk fd_CT0 fd_CL0 fd_FT0 fd_PT0 fd_LT0 fd_p24 6 138 prog_1_method_15_code 0 fd_c24 fd_o24 = true := by decide +kernel
theorem fd_g24 : fd_P 24 := fd_Pof fd_x0 fd_l0 fd_k24 rfl rfl rfl rfl rfl rfl rfl rfl rfl rfl
theorem fd_k25 : fd_chk fd_CT0 fd_CL0 fd_FT0 fd_PT0 fd_LT0 fd_p25 3 64 prog_1_method_16_code 0 fd_c25 fd_o25 = true := by decide +kernel
theorem fd_g25 : fd_P 25 := fd_Pof fd_x0 fd_l0 fd_k25 rfl rfl rfl rfl rfl rfl rfl rfl rfl rfl
theorem fd_k26 : fd_chk fd_CT0 fd_CL0 fd_FT0 fd_PT0 fd_LT0 fd_p26 6 129 prog_1_method_17_code 0 fd_c26 fd_o26 = true := by decide +kernel
theorem fd_g26 : fd_P 26 := fd_Pof fd_x0 fd_l0 fd_k26 rfl rfl rfl rfl rfl rfl rfl rfl rfl rfl
theorem fd_k27 : fd_chk fd_CT0 fd_CL0 fd_FT0 fd_PT0 fd_LT0 fd_p27 5 107 prog_1_method_18_code 0 fd_c27 fd_o27 = true := by decide +kernel
theorem fd_g27 : fd_P 27 := fd_Pof fd_x0 fd_l0 fd_k27 rfl rfl rfl rfl rfl rfl rfl rfl rfl rfl
theorem fd_k28 : fd_chk fd_CT0 fd_CL0 fd_FT0 fd_PT0 fd_LT0 fd_p28 6 129 prog_1_method_19_code 0 fd_c28 fd_o28 = true := by decide +kernel
theorem fd_g28 : fd_P 28 := fd_Pof fd_x0 fd_l0 fd_k28 rfl rfl rfl rfl rfl rfl rfl rfl rfl rfl
theorem fd_k29 : fd_chk fd_CT0 fd_CL0 fd_FT0 fd_PT0 fd_LT0 fd_p29 5 107 prog_1_method_20_code 0 fd_c29 fd_o29 = true := by decide +kernel
theorem fd_g29 : fd_P 29 := fd_Pof fd_x0 fd_l0 fd_k29 rfl rfl rfl rfl rfl rfl rfl rfl rfl rfl
theorem fd_k30 : fd_chk fd_CT0 fd_CL0 fd_FT0 fd_PT0 fd_LT0 fd_p30 6 138 prog_1_method_21_code 0 fd_c30 fd_o30 = true := by decide +kernel
theorem fd_g30 : fd_P 30 := fd_Pof fd_x0 fd_l0 fd_k30 rfl rfl rfl rfl rfl rfl rfl rfl rfl rfl
theorem fd_k31 : fd_chk fd_CT0 fd_CL0 fd_FT0 fd_PT0 fd_LT0 fd_p31 1 26 prog_1_method_22_code 0 fd_c31 fd_o31 = true := by decide +kernel
theorem fd_g31 : fd_P 31 := fd_Pof fd_x0 fd_l0 fd_k31 rfl rfl rfl rfl rfl rfl rfl rfl rfl rfl
theorem fd_k32 : fd_chk fd_CT0 fd_CL0 fd_FT0 fd_PT0 fd_LT0 fd_p32 1 20 prog_1_method_23_code 0 fd_c32 fd_o32 = true := by decide +kernel
theorem fd_g32 : fd_P 32 := fd_Pof fd_x0 fd_l0 fd_k32 rfl rfl rfl rfl rfl rfl rfl rfl rfl rfl
theorem fd_k33 : fd_chk fd_CT0 fd_CL0 fd_FT0 fd_PT0 fd_LT0 fd_p33 6 132 prog_1_method_24_code 0 fd_c33 fd_o33 = true := by decide +kernel
theorem fd_g33 : fd_P 33 := fd_Pof fd_x0 fd_l0 fd_k33 rfl rfl rfl rfl rfl rfl rfl rfl rfl rfl
theorem fd_k34 : fd_chk fd_CT0 fd_CL0 fd_FT0 fd_PT0 fd_LT0 fd_p34 3 70 prog_1_method_25_code 0 fd_c34 fd_o34 = true := by decide +kernel
theorem fd_g34 : fd_P 34 := fd_Pof fd_x0 fd_l0 fd_k34 rfl rfl rfl rfl rfl rfl rfl rfl rfl rfl
theorem fd_k35 : fd_chk fd_CT0 fd_CL0 fd_FT0 fd_PT0 fd_LT0 fd_p35 5 108 prog_1_method_26_code 0 fd_c35 fd_o35 = true := by decide +kernel
theorem fd_g35 : fd_P 35 := fd_Pof fd_x0 fd_l0 fd_k35 rfl rfl rfl rfl rfl rfl rfl rfl rfl rfl
theorem fd_k36 : fd_chk fd_CT0 fd_CL0 fd_FT0 fd_PT0 fd_LT0 fd_p36 0 0 prog_1_method_34_code 0 fd_c36 fd_o36 = true := by decide +kernel
theorem fd_g36 : fd_P 36 := fd_Pof fd_x0 fd_l0 fd_k36 rfl rfl rfl rfl rfl rfl rfl rfl rfl rfl
theorem fd_k37 : fd_chk fd_CT0 fd_CL0 fd_FT0 fd_PT0 fd_LT0 fd_p37 5 108 prog_1_method_27_code 0 fd_c37 fd_o37 = true := by decide +kernel
theorem fd_g37 : fd_P 37 := fd_Pof fd_x0 fd_l0 fd_k37 rfl rfl rfl rfl rfl rfl rfl rfl rfl rfl
theorem fd_k38 : fd_chk fd_CT1 fd_CL1 fd_FT1 fd_PT1 fd_LT1 fd_p38 2 47 prog_2_method_4_code 0 fd_c38 fd_o38 = true := by decide +kernel
theorem fd_g38 : fd_P 38 := fd_Pof fd_x1 fd_l1 fd_k38 rfl rfl rfl rfl rfl rfl rfl rfl rfl rfl
theorem fd_k39 : fd_chk fd_CT1 fd_CL1 fd_FT1 fd_PT1 fd_LT1 fd_p39 0 0 prog_2_method_2_code 0 fd_c39 fd_o39 = true := by decide +kernel
theorem fd_g39 : fd_P 39 := fd_Pof fd_x1 fd_l1 fd_k39 rfl rfl rfl rfl rfl rfl rfl rfl rfl rfl
theorem fd_k40 : fd_chk fd_CT1 fd_CL1 fd_FT1 fd_PT1 fd_LT1 fd_p40 2 47 prog_2_method_5_code 0 fd_c40 fd_o40 = true := by decide +kernel
theorem fd_g40 : fd_P 40 := fd_Pof fd_x1 fd_l1 fd_k40 rfl rfl rfl rfl rfl rfl rfl rfl rfl rfl
theorem fd_k41 : fd_chk fd_CT2 fd_CL2 fd_FT2 fd_PT2 fd_LT2 fd_p41 5 116 prog_3_method_2_code 0 fd_c41 fd_o41 = true := by decide +kernel
theorem fd_g41 : fd_P 41 := fd_Pof fd_x2 fd_l2 fd_k41 rfl rfl rfl rfl rfl rfl rfl rfl rfl rfl
theorem fd_k42 : fd_chk fd_CT2 fd_CL2 fd_FT2 fd_PT2 fd_LT2 fd_p42 4 91 prog_3_method_3_code 0 fd_c42 fd_o42 = true := by decide +kernel
theorem fd_g42 : fd_P 42 := fd_Pof fd_x2 fd_l2 fd_k42 rfl rfl rfl rfl rfl rfl rfl rfl rfl rfl
theorem fd_k43 : fd_chk fd_CT2 fd_CL2 fd_FT2 fd_PT2 fd_LT2 fd_p43 0 0 prog_3_method_6_code 0 fd_c43 fd_o43 = true := by decide +kernel
theorem fd_g43 : fd_P 43 := fd_Pof fd_x2 fd_l2 fd_k43 rfl rfl rfl rfl rfl rfl rfl rfl rfl rfl
theorem fd_k44 : fd_chk fd_CT2 fd_CL2 fd_FT2 fd_PT2 fd_LT2 fd_p44 3 65 prog_3_method_4_code 0 fd_c44 fd_o44 = true := by decide +kernel
theorem fd_g44 : fd_P 44 := fd_Pof fd_x2 fd_l2 fd_k44 rfl rfl rfl rfl rfl rfl rfl rfl rfl rfl
theorem fd_k45 : fd_chk fd_CT2 fd_CL2 fd_FT2 fd_PT2 fd_LT2 fd_p45 2 41 prog_3_method_5_code 0 fd_c45 fd_o45 = true := by decide +kernel
theorem fd_g45 : fd_P 45 := fd_Pof fd_x2 fd_l2 fd_k45 rfl rfl rfl rfl rfl rfl rfl rfl rfl rfl
theorem fd_k46 : fd_chk fd_CT2 fd_CL2 fd_FT2 fd_PT2 fd_LT2 fd_p46 1 20 prog_3_method_8_code 0 fd_c46 fd_o46 = true := by decide +kernel
theorem fd_g46 : fd_P 46 := fd_Pof fd_x2 fd_l2 fd_k46 rfl rfl rfl rfl rfl rfl rfl rfl rfl rfl
theorem fd_k47 : fd_chk fd_CT2 fd_CL2 fd_FT2 fd_PT2 fd_LT2 fd_p47 2 41 prog_3_method_15_code 0 fd_c47 fd_o47 = true := by decide +kernel
theorem fd_g47 : fd_P 47 := fd_Pof fd_x2 fd_l2 fd_k47 rfl rfl rfl rfl rfl rfl rfl rfl rfl rfl
theorem fd_k48 : fd_chk fd_CT2 fd_CL2 fd_FT2 fd_PT2 fd_LT2 fd_p48 1 20 prog_3_method_11_code 0 fd_c48 fd_o48 = true := by decide +kernel
theorem fd_g48 : fd_P 48 := fd_Pof fd_x2 fd_l2 fd_k48 rfl rfl rfl rfl rfl rfl rfl rfl rfl rfl
theorem fd_k49 : fd_chk fd_CT2 fd_CL2 fd_FT2 fd_PT2 fd_LT2 fd_p49 0 0 prog_3_method_7_code 0 fd_c49 fd_o49 = true := by decide +kernel
theorem fd_g49 : fd_P 49 := fd_Pof fd_x2 fd_l2 fd_k49 rfl rfl rfl rfl rfl rfl rfl rfl rfl rfl
theorem fd_k50 : fd_chk fd_CT2 fd_CL2 fd_FT2 fd_PT2 fd_LT2 fd_p50 1 20 prog_3_method_9_code 0 fd_c50 fd_o50 = true := by decide +kernel
theorem fd_g50 : fd_P 50 := fd_Pof fd_x2 fd_l2 fd_k50 rfl rfl rfl rfl rfl rfl rfl rfl rfl rfl
theorem fd_k51 : fd_chk fd_CT2 fd_CL2 fd_FT2 fd_PT2 fd_LT2 fd_p51 1 20 prog_3_method_10_code 0 fd_c51 fd_o51 = true := by decide +kernel
theorem fd_g51 : fd_P 51 := fd_Pof fd_x2 fd_l2 fd_k51 rfl rfl rfl rfl rfl rfl rfl rfl rfl rfl
theorem fd_k52 : fd_chk fd_CT2 fd_CL2 fd_FT2 fd_PT2 fd_LT2 fd_p52 1 20 prog_3_method_12_code 0 fd_c52 fd_o52 = true := by decide +kernel
theorem fd_g52 : fd_P 52 := fd_Pof fd_x2 fd_l2 fd_k52 rfl rfl rfl rfl rfl rfl rfl rfl rfl rfl
theorem fd_k53 : fd_chk fd_CT2 fd_CL2 fd_FT2 fd_PT2 fd_LT2 fd_p53 1 20 prog_3_method_13_code 0 fd_c53 fd_o53 = true := by decide +kernel
theorem fd_g53 : fd_P 53 := fd_Pof fd_x2 fd_l2 fd_k53 rfl rfl rfl rfl rfl rfl rfl rfl rfl rfl
theorem fd_k54 : fd_chk fd_CT2 fd_CL2 fd_FT2 fd_PT2 fd_LT2 fd_p54 1 20 prog_3_method_14_code 0 fd_c54 fd_o54 = true := by decide +kernel
theorem fd_g54 : fd_P 54 := fd_Pof fd_x2 fd_l2 fd_k54 rfl rfl rfl rfl rfl rfl rfl rfl rfl rfl
theorem fd_k55 : fd_chk fd_CT2 fd_CL2 fd_FT2 fd_PT2 fd_LT2 fd_p55 2 41 prog_3_method_16_code 0 fd_c55 fd_o55 = true := by decide +kernel
theorem fd_g55 : fd_P 55 := fd_Pof fd_x2 fd_l2 fd_k55 rfl rfl rfl rfl rfl rfl rfl rfl rfl rfl
theorem fd_k56 : fd_chk fd_CT2 fd_CL2 fd_FT2 fd_PT2 fd_LT2 fd_p56 2 41 prog_3_method_17_code 0 fd_c56 fd_o56 = true := by decide +kernel
theorem fd_g56 : fd_P 56 := fd_Pof fd_x2 fd_l2 fd_k56 rfl rfl rfl rfl rfl rfl rfl rfl rfl rfl
theorem fd_k57 : fd_chk fd_CT2 fd_CL2 fd_FT2 fd_PT2 fd_LT2 fd_p57 2 41 prog_3_method_18_code 0 fd_c57 fd_o57 = true := by decide +kernel
theorem fd_g57 : fd_P 57 := fd_Pof fd_x2 fd_l2 fd_k57 rfl rfl rfl rfl rfl rfl rfl rfl rfl rfl
theorem fd_k58 : fd_chk fd_CT3 fd_CL3 fd_FT3 fd_PT3 fd_LT3 fd_p58 5 110 prog_4_method_8_code 0 fd_c58 fd_o58 = true := by decide +kernel
theorem fd_g58 : fd_P 58 := fd_Pof fd_x3 fd_l3 fd_k58 rfl rfl rfl rfl rfl rfl rfl rfl rfl rfl
theorem fd_k59 : fd_chk fd_CT3 fd_CL3 fd_FT3 fd_PT3 fd_LT3 fd_p59 4 88 prog_4_method_9_code 0 fd_c59 fd_o59 = true := by decide +kernel
theorem fd_g59 : fd_P 59 := fd_Pof fd_x3 fd_l3 fd_k59 rfl rfl rfl rfl rfl rfl rfl rfl rfl rfl
theorem fd_k60 : fd_chk fd_CT3 fd_CL3 fd_FT3 fd_PT3 fd_LT3 fd_p60 1 21 prog_4_method_7_code 0 fd_c60 fd_o60 = true := by decide +kernel
theorem fd_g60 : fd_P 60 := fd_Pof fd_x3 fd_l3 fd_k60 rfl rfl rfl rfl rfl rfl rfl rfl rfl rfl
theorem fd_k61 : fd_chk fd_CT3 fd_CL3 fd_FT3 fd_PT3 fd_LT3 fd_p61 0 0 prog_4_method_6_code 0 fd_c61 fd_o61 = true := by decide +kernel
theorem fd_g61 : fd_P 61 := fd_Pof fd_x3 fd_l3 fd_k61 rfl rfl rfl rfl rfl rfl rfl rfl rfl rfl
theorem fd_k62 : fd_chk fd_CT3 fd_CL3 fd_FT3 fd_PT3 fd_LT3 fd_p62 2 44 prog_4_method_10_code 0 fd_c62 fd_o62 = true := by decide +kernel
theorem fd_g62 : fd_P 62 := fd_Pof fd_x3 fd_l3 fd_k62 rfl rfl rfl rfl rfl rfl rfl rfl rfl rfl
theorem fd_k63 : fd_chk fd_CT3 fd_CL3 fd_FT3 fd_PT3 fd_LT3 fd_p63 1 22 prog_4_method_11_code 0 fd_c63 fd_o63 = true := by decide +kernel
theorem fd_g63 : fd_P 63 := fd_Pof fd_x3 fd_l3 fd_k63 rfl rfl rfl rfl rfl rfl rfl rfl rfl rfl
theorem fd_k64 : fd_chk fd_CT3 fd_CL3 fd_FT3 fd_PT3 fd_LT3 fd_p64 0 0 prog_4_method_13_code 0 fd_c64 fd_o64 = true := by decide +kernel
theorem fd_g64 : fd_P 64 := fd_Pof fd_x3 fd_l3 fd_k64 rfl rfl rfl rfl rfl rfl rfl rfl rfl rfl
theorem fd_k65 : fd_chk fd_CT3 fd_CL3 fd_FT3 fd_PT3 fd_LT3 fd_p65 0 0 prog_4_method_14_code 0 fd_c65 fd_o65 = true := by decide +kernel
theorem fd_g65 : fd_P 65 := fd_Pof fd_x3 fd_l3 fd_k65 rfl rfl rfl rfl rfl rfl rfl rfl rfl rfl
theorem fd_k66 : fd_chk fd_CT3 fd_CL3 fd_FT3 fd_PT3 fd_LT3 fd_p66 3 65 prog_4_method_12_code 0 fd_c66 fd_o66 = true := by decide +kernel
theorem fd_g66 : fd_P 66 := fd_Pof fd_x3 fd_l3 fd_k66 rfl rfl rfl rfl rfl rfl rfl rfl rfl rfl
theorem fd_k67 : fd_chk fd_CT3 fd_CL3 fd_FT3 fd_PT3 fd_LT3 fd_p67 2 43 prog_4_method_16_code 0 fd_c67 fd_o67 = true := by decide +kernel
theorem fd_g67 : fd_P 67 := fd_Pof fd_x3 fd_l3 fd_k67 rfl rfl rfl rfl rfl rfl rfl rfl rfl rfl
theorem fd_k68 : fd_chk fd_CT3 fd_CL3 fd_FT3 fd_PT3 fd_LT3 fd_p68 2 43 prog_4_method_15_code 0 fd_c68 fd_o68 = true := by decide +kernel
theorem fd_g68 : fd_P 68 := fd_Pof fd_x3 fd_l3 fd_k68 rfl rfl rfl rfl rfl rfl rfl rfl rfl rfl
theorem fd_k69 : fd_chk fd_CT3 fd_CL3 fd_FT3 fd_PT3 fd_LT3 fd_p69 3 65 prog_4_method_17_code 0 fd_c69 fd_o69 = true := by decide +kernel
theorem fd_g69 : fd_P 69 := fd_Pof fd_x3 fd_l3 fd_k69 rfl rfl rfl rfl rfl rfl rfl rfl rfl rfl
theorem fd_k70 : fd_chk fd_CT3 fd_CL3 fd_FT3 fd_PT3 fd_LT3 fd_p70 0 0 prog_4_method_3_code 0 fd_c70 fd_o70 = true := by decide +kernel
theorem fd_g70 : fd_P 70 := fd_Pof fd_x3 fd_l3 fd_k70 rfl rfl rfl rfl rfl rfl rfl rfl rfl rfl
theorem fd_k71 : fd_chk fd_CT3 fd_CL3 fd_FT3 fd_PT3 fd_LT3 fd_p71 0 0 prog_4_method_2_code 0 fd_c71 fd_o71 = true := by decide +kernel
theorem fd_g71 : fd_P 71 := fd_Pof fd_x3 fd_l3 fd_k71 rfl rfl rfl rfl rfl rfl rfl rfl rfl rfl
theorem fd_k72 : fd_chk fd_CT3 fd_CL3 fd_FT3 fd_PT3 fd_LT3 fd_p72 0 0 prog_4_method_4_code 0 fd_c72 fd_o72 = true := by decide +kernel
theorem fd_g72 : fd_P 72 := fd_Pof fd_x3 fd_l3 fd_k72 rfl rfl rfl rfl rfl rfl rfl rfl rfl rfl
theorem fd_k73 : fd_chk fd_CT3 fd_CL3 fd_FT3 fd_PT3 fd_LT3 fd_p73 0 0 prog_4_method_5_code 0 fd_c73 fd_o73 = true := by decide +kernel
theorem fd_g73 : fd_P 73 := fd_Pof fd_x3 fd_l3 fd_k73 rfl rfl rfl rfl rfl rfl rfl rfl rfl rfl
theorem fd_k74 : fd_chk fd_CT4 fd_CL4 fd_FT4 fd_PT4 fd_LT4 fd_p74 2 47 prog_5_method_3_code 0 fd_c74 fd_o74 = true := by decide +kernel
theorem fd_g74 : fd_P 74 := fd_Pof fd_x4 fd_l4 fd_k74 rfl rfl rfl rfl rfl rfl rfl rfl rfl rfl
theorem fd_k75 : fd_chk fd_CT4 fd_CL4 fd_FT4 fd_PT4 fd_LT4 fd_p75 1 20 prog_5_method_2_code 0 fd_c75 fd_o75 = true := by decide +kernel
theorem fd_g75 : fd_P 75 := fd_Pof fd_x4 fd_l4 fd_k75 rfl rfl rfl rfl rfl rfl rfl rfl rfl rfl
theorem fd_k76 : fd_chk fd_CT4 fd_CL4 fd_FT4 fd_PT4 fd_LT4 fd_p76 2 47 prog_5_method_4_code 0 fd_c76 fd_o76 = true := by decide +kernel
theorem fd_g76 : fd_P 76 := fd_Pof fd_x4 fd_l4 fd_k76 rfl rfl rfl rfl rfl rfl rfl rfl rfl rfl
theorem fd_k77 : fd_chk fd_CT5 fd_CL5 fd_FT5 fd_PT5 fd_LT5 fd_p77 1 26 prog_6_method_2_code 0 fd_c77 fd_o77 = true := by decide +kernel
theorem fd_g77 : fd_P 77 := fd_Pof fd_x5 fd_l5 fd_k77 rfl rfl rfl rfl rfl rfl rfl rfl rfl rfl
theorem fd_k78 : fd_chk fd_CT5 fd_CL5 fd_FT5 fd_PT5 fd_LT5 fd_p78 1 21 prog_6_method_10_code 0 fd_c78 fd_o78 = true := by decide +kernel
theorem fd_g78 : fd_P 78 := fd_Pof fd_x5 fd_l5 fd_k78 rfl rfl rfl rfl rfl rfl rfl rfl rfl rfl
theorem fd_k79 : fd_chk fd_CT5 fd_CL5 fd_FT5 fd_PT5 fd_LT5 fd_p79 1 20 prog_6_method_18_code 0 fd_c79 fd_o79 = true := by decide +kernel
theorem fd_g79 : fd_P 79 := fd_Pof fd_x5 fd_l5 fd_k79 rfl rfl rfl rfl rfl rfl rfl rfl rfl rfl
theorem fd_k80 : fd_chk fd_CT5 fd_CL5 fd_FT5 fd_PT5 fd_LT5 fd_p80 1 21 prog_6_method_8_code 0 fd_c80 fd_o80 = true := by decide +kernel
theorem fd_g80 : fd_P 80 := fd_Pof fd_x5 fd_l5 fd_k80 rfl rfl rfl rfl rfl rfl rfl rfl rfl rfl
theorem fd_k81 : fd_chk fd_CT5 fd_CL5 fd_FT5 fd_PT5 fd_LT5 fd_p81 3 64 prog_6_method_28_code 0 fd_c81 fd_o81 = true := by decide +kernel
theorem fd_g81 : fd_P 81 := fd_Pof fd_x5 fd_l5 fd_k81 rfl rfl rfl rfl rfl rfl rfl rfl rfl rfl
theorem fd_k82 : fd_chk fd_CT5 fd_CL5 fd_FT5 fd_PT5 fd_LT5 fd_p82 2 41 prog_6_method_7_code 0 fd_c82 fd_o82 = true := by decide +kernel
theorem fd_g82 : fd_P 82 := fd_Pof fd_x5 fd_l5 fd_k82 rfl rfl rfl rfl rfl rfl rfl rfl rfl rfl
theorem fd_k83 : fd_chk fd_CT5 fd_CL5 fd_FT5 fd_PT5 fd_LT5 fd_p83 1 20 prog_6_method_4_code 0 fd_c83 fd_o83 = true := by decide +kernel
theorem fd_g83 : fd_P 83 := fd_Pof fd_x5 fd_l5 fd_k83 rfl rfl rfl rfl rfl rfl rfl rfl rfl rfl
theorem fd_k84 : fd_chk fd_CT5 fd_CL5 fd_FT5 fd_PT5 fd_LT5 fd_p84 1 20 prog_6_method_3_code 0 fd_c84 fd_o84 = true := by decide +kernel
theorem fd_g84 : fd_P 84 := fd_Pof fd_x5 fd_l5 fd_k84 rfl rfl rfl rfl rfl rfl rfl rfl rfl rfl
theorem fd_k85 : fd_chk fd_CT5 fd_CL5 fd_FT5 fd_PT5 fd_LT5 fd_p85 1 21 prog_6_method_9_code 0 fd_c85 fd_o85 = true := by decide +kernel
theorem fd_g85 : fd_P 85 := fd_Pof fd_x5 fd_l5 fd_k85 rfl rfl rfl rfl rfl rfl rfl rfl rfl rfl
theorem fd_k86 : fd_chk fd_CT5 fd_CL5 fd_FT5 fd_PT5 fd_LT5 fd_p86 3 64 prog_6_method_11_code 0 fd_c86 fd_o86 = true := by decide +kernel
theorem fd_g86 : fd_P 86 := fd_Pof fd_x5 fd_l5 fd_k86 rfl rfl rfl rfl rfl rfl rfl rfl rfl rfl
theorem fd_k87 : fd_chk fd_CT5 fd_CL5 fd_FT5 fd_PT5 fd_LT5 fd_p87 3 65 prog_6_method_12_code 0 fd_c87 fd_o87 = true := by decide +kernel
theorem fd_g87 : fd_P 87 := fd_Pof fd_x5 fd_l5 fd_k87 rfl rfl rfl rfl rfl rfl rfl rfl rfl rfl
theorem fd_k88 : fd_chk fd_CT5 fd_CL5 fd_FT5 fd_PT5 fd_LT5 fd_p88 2 43 prog_6_method_14_code 0 fd_c88 fd_o88 = true := by decide +kernel
theorem fd_g88 : fd_P 88 := fd_Pof fd_x5 fd_l5 fd_k88 rfl rfl rfl rfl rfl rfl rfl rfl rfl rfl
theorem fd_k89 : fd_chk fd_CT5 fd_CL5 fd_FT5 fd_PT5 fd_LT5 fd_p89 4 85 prog_6_method_31_code 0 fd_c89 fd_o89 = true := by decide +kernel
theorem fd_g89 : fd_P 89 := fd_Pof fd_x5 fd_l5 fd_k89 rfl rfl rfl rfl rfl rfl rfl rfl rfl rfl
theorem fd_k90 : fd_chk fd_CT5 fd_CL5 fd_FT5 fd_PT5 fd_LT5 fd_p90 3 64 prog_6_method_24_code 0 fd_c90 fd_o90 = true := by decide +kernel
theorem fd_g90 : fd_P 90 := fd_Pof fd_x5 fd_l5 fd_k90 rfl rfl rfl rfl rfl rfl rfl rfl rfl rfl
theorem fd_k91 : fd_chk fd_CT5 fd_CL5 fd_FT5 fd_PT5 fd_LT5 fd_p91 3 64 prog_6_method_25_code 0 fd_c91 fd_o91 = true := by decide +kernel
theorem fd_g91 : fd_P 91 := fd_Pof fd_x5 fd_l5 fd_k91 rfl rfl rfl rfl rfl rfl rfl rfl rfl rfl
theorem fd_k92 : fd_chk fd_CT5 fd_CL5 fd_FT5 fd_PT5 fd_LT5 fd_p92 3 65 prog_6_method_13_code 0 fd_c92 fd_o92 = true := by decide +kernel
theorem fd_g92 : fd_P 92 := fd_Pof fd_x5 fd_l5 fd_k92 rfl rfl rfl rfl rfl rfl rfl rfl rfl rfl
theorem fd_k93 : fd_chk fd_CT5 fd_CL5 fd_FT5 fd_PT5 fd_LT5 fd_p93 0 0 prog_6_method_15_code 0 fd_c93 fd_o93 = true := by decide +kernel
theorem fd_g93 : fd_P 93 := fd_Pof fd_x5 fd_l5 fd_k93 rfl rfl rfl rfl rfl rfl rfl rfl rfl rfl
theorem fd_k94 : fd_chk fd_CT5 fd_CL5 fd_FT5 fd_PT5 fd_LT5 fd_p94 1 21 prog_6_method_16_code 0 fd_c94 fd_o94 = true := by decide +kernel
theorem fd_g94 : fd_P 94 := fd_Pof fd_x5 fd_l5 fd_k94 rfl rfl rfl rfl rfl rfl rfl rfl rfl rfl
theorem fd_k95 : fd_chk fd_CT5 fd_CL5 fd_FT5 fd_PT5 fd_LT5 fd_p95 5 106 prog_6_method_17_code 0 fd_c95 fd_o95 = true := by decide +kernel
theorem fd_g95 : fd_P 95 := fd_Pof fd_x5 fd_l5 fd_k95 rfl rfl rfl rfl rfl rfl rfl rfl rfl rfl
theorem fd_k96 : fd_chk fd_CT5 fd_CL5 fd_FT5 fd_PT5 fd_LT5 fd_p96 4 85 prog_6_method_26_code 0 fd_c96 fd_o96 = true := by decide +kernel
theorem fd_g96 : fd_P 96 := fd_Pof fd_x5 fd_l5 fd_k96 rfl rfl rfl rfl rfl rfl rfl rfl rfl rfl
theorem fd_k97 : fd_chk fd_CT5 fd_CL5 fd_FT5 fd_PT5 fd_LT5 fd_p97 2 42 prog_6_method_6_code 0 fd_c97 fd_o97 = true := by decide +kernel
theorem fd_g97 : fd_P 97 := fd_Pof fd_x5 fd_l5 fd_k97 rfl rfl rfl rfl rfl rfl rfl rfl rfl rfl
theorem fd_k98 : fd_chk fd_CT5 fd_CL5 fd_FT5 fd_PT5 fd_LT5 fd_p98 2 41 prog_6_method_5_code 0 fd_c98 fd_o98 = true := by decide +kernel
theorem fd_g98 : fd_P 98 := fd_Pof fd_x5 fd_l5 fd_k98 rfl rfl rfl rfl rfl rfl rfl rfl rfl rfl
theorem fd_k99 : fd_chk fd_CT5 fd_CL5 fd_FT5 fd_PT5 fd_LT5 fd_p99 1 20 prog_6_method_19_code 0 fd_c99 fd_o99 = true := by decide +kernel
theorem fd_g99 : fd_P 99 := fd_Pof fd_x5 fd_l5 fd_k99 rfl rfl rfl rfl rfl rfl rfl rfl rfl rfl
theorem fd_k100 : fd_chk fd_CT5 fd_CL5 fd_FT5 fd_PT5 fd_LT5 fd_p100 2 46 prog_6_method_36_code 0 fd_c100 fd_o100 = true := by decide +kernel
theorem fd_g100 : fd_P 100 := fd_Pof fd_x5 fd_l5 fd_k100 rfl rfl rfl rfl rfl rfl rfl rfl rfl rfl
theorem fd_k101 : fd_chk fd_CT5 fd_CL5 fd_FT5 fd_PT5 fd_LT5 fd_p101 1 21 prog_6_method_35_code 0 fd_c101 fd_o101 = true := by decide +kernel
theorem fd_g101 : fd_P 101 := fd_Pof fd_x5 fd_l5 fd_k101 rfl rfl rfl rfl rfl rfl rfl rfl rfl rfl
theorem fd_k102 : fd_chk fd_CT5 fd_CL5 fd_FT5 fd_PT5 fd_LT5 fd_p102 0 0 prog_6_method_34_code 0 fd_c102 fd_o102 = true := by decide +kernel
theorem fd_g102 : fd_P 102 := fd_Pof fd_x5 fd_l5 fd_k102 rfl rfl rfl rfl rfl rfl rfl rfl rfl rfl
theorem fd_k103 : fd_chk fd_CT5 fd_CL5 fd_FT5 fd_PT5 fd_LT5 fd_p103 3 74 prog_6_method_37_code 0 fd_c103 fd_o103 = true := by decide +kernel
theorem fd_g103 : fd_P 103 := fd_Pof fd_x5 fd_l5 fd_k103 rfl rfl rfl rfl rfl rfl rfl rfl rfl rfl
theorem fd_k104 : fd_chk fd_CT5 fd_CL5 fd_FT5 fd_PT5 fd_LT5 fd_p104 3 64 prog_6_method_32_code 0 fd_c104 fd_o104 = true := by decide +kernel
theorem fd_g104 : fd_P 104 := fd_Pof fd_x5 fd_l5 fd_k104 rfl rfl rfl rfl rfl rfl rfl rfl rfl rfl
theorem fd_k105 : fd_chk fd_CT5 fd_CL5 fd_FT5 fd_PT5 fd_LT5 fd_p105 2 41 prog_6_method_30_code 0 fd_c105 fd_o105 = true := by decide +kernel
theorem fd_g105 : fd_P 105 := fd_Pof fd_x5 fd_l5 fd_k105 rfl rfl rfl rfl rfl rfl rfl rfl rfl rfl
theorem fd_k106 : fd_chk fd_CT5 fd_CL5 fd_FT5 fd_PT5 fd_LT5 fd_p106 4 85 prog_6_method_27_code 0 fd_c106 fd_o106 = true := by decide +kernel
theorem fd_g106 : fd_P 106 := fd_Pof fd_x5 fd_l5 fd_k106 rfl rfl rfl rfl rfl rfl rfl rfl rfl rfl
theorem fd_k107 : fd_chk fd_CT5 fd_CL5 fd_FT5 fd_PT5 fd_LT5 fd_p107 0 0 prog_6_method_20_code 0 fd_c107 fd_o107 = true := by decide +kernel
theorem fd_g107 : fd_P 107 := fd_Pof fd_x5 fd_l5 fd_k107 rfl rfl rfl rfl rfl rfl rfl rfl rfl rfl
theorem fd_k108 : fd_chk fd_CT5 fd_CL5 fd_FT5 fd_PT5 fd_LT5 fd_p108 4 86 prog_6_method_21_code 0 fd_c108 fd_o108 = true := by decide +kernel
theorem fd_g108 : fd_P 108 := fd_Pof fd_x5 fd_l5 fd_k108 rfl rfl rfl rfl rfl rfl rfl rfl rfl rfl
theorem fd_k109 : fd_chk fd_CT5 fd_CL5 fd_FT5 fd_PT5 fd_LT5 fd_p109 5 106 prog_6_method_22_code 0 fd_c109 fd_o109 = true := by decide +kernel
theorem fd_g109 : fd_P 109 := fd_Pof fd_x5 fd_l5 fd_k109 rfl rfl rfl rfl rfl rfl rfl rfl rfl rfl
theorem fd_k110 : fd_chk fd_CT5 fd_CL5 fd_FT5 fd_PT5 fd_LT5 fd_p110 5 106 prog_6_method_23_code 0 fd_c110 fd_o110 = true := by decide +kernel
theorem fd_g110 : fd_P 110 := fd_Pof fd_x5 fd_l5 fd_k110 rfl rfl rfl rfl rfl rfl rfl rfl rfl rfl
theorem fd_k111 : fd_chk fd_CT5 fd_CL5 fd_FT5 fd_PT5 fd_LT5 fd_p111 4 86 prog_6_method_29_code 0 fd_c111 fd_o111 = true := by decide +kernel
theorem fd_g111 : fd_P 111 := fd_Pof fd_x5 fd_l5 fd_k111 rfl rfl rfl rfl rfl rfl rfl rfl rfl rfl
theorem fd_k112 : fd_chk fd_CT5 fd_CL5 fd_FT5 fd_PT5 fd_LT5 fd_p112 3 64 prog_6_method_33_code 0 fd_c112 fd_o112 = true := by decide +kernel
theorem fd_g112 : fd_P 112 := fd_Pof fd_x5 fd_l5 fd_k112 rfl rfl rfl rfl rfl rfl rfl rfl rfl rfl
theorem fd_k113 : fd_chk fd_CT5 fd_CL5 fd_FT5 fd_PT5 fd_LT5 fd_p113 4 97 prog_6_method_38_code 0 fd_c113 fd_o113 = true := by decide +kernel
theorem fd_g113 : fd_P 113 := fd_Pof fd_x5 fd_l5 fd_k113 rfl rfl rfl rfl rfl rfl rfl rfl rfl rfl
theorem fd_k114 : fd_chk fd_CT7 fd_CL7 fd_FT7 fd_PT7 fd_LT7 fd_p114 3 63 prog_8_method_25_code 0 fd_c114 fd_o114 = true := by decide +kernel
theorem fd_g114 : fd_P 114 := fd_Pof fd_x7 fd_l7 fd_k114 rfl rfl rfl rfl rfl rfl rfl rfl rfl rfl
theorem fd_k115 : fd_chk fd_CT7 fd_CL7 fd_FT7 fd_PT7 fd_LT7 fd_p115 2 42 prog_8_method_4_code 0 fd_c115 fd_o115 = true := by decide +kernel
theorem fd_g115 : fd_P 115 := fd_Pof fd_x7 fd_l7 fd_k115 rfl rfl rfl rfl rfl rfl rfl rfl rfl rfl
theorem fd_k116 : fd_chk fd_CT7 fd_CL7 fd_FT7 fd_PT7 fd_LT7 fd_p116 1 22 prog_8_method_3_code 0 fd_c116 fd_o116 = true := by decide +kernel
theorem fd_g116 : fd_P 116 := fd_Pof fd_x7 fd_l7 fd_k116 rfl rfl rfl rfl rfl rfl rfl rfl rfl rfl
theorem fd_k117 : fd_chk fd_CT7 fd_CL7 fd_FT7 fd_PT7 fd_LT7 fd_p117 0 0 prog_8_method_2_code 0 fd_c117 fd_o117 = true := by decide +kernel
theorem fd_g117 : fd_P 117 := fd_Pof fd_x7 fd_l7 fd_k117 rfl rfl rfl rfl rfl rfl rfl rfl rfl rfl
theorem fd_k118 : fd_chk fd_CT7 fd_CL7 fd_FT7 fd_PT7 fd_LT7 fd_p118 0 0 prog_8_method_8_code 0 fd_c118 fd_o118 = true := by decide +kernel
theorem fd_g118 : fd_P 118 := fd_Pof fd_x7 fd_l7 fd_k118 rfl rfl rfl rfl rfl rfl rfl rfl rfl rfl
theorem fd_k119 : fd_chk fd_CT7 fd_CL7 fd_FT7 fd_PT7 fd_LT7 fd_p119 0 0 prog_8_method_5_code 0 fd_c119 fd_o119 = true := by decide +kernel
theorem fd_g119 : fd_P 119 := fd_Pof fd_x7 fd_l7 fd_k119 rfl rfl rfl rfl rfl rfl rfl rfl rfl rfl
theorem fd_k120 : fd_chk fd_CT7 fd_CL7 fd_FT7 fd_PT7 fd_LT7 fd_p120 0 0 prog_8_method_15_code 0 fd_c120 fd_o120 = true := by decide +kernel
theorem fd_g120 : fd_P 120 := fd_Pof fd_x7 fd_l7 fd_k120 rfl rfl rfl rfl rfl rfl rfl rfl rfl rfl
theorem fd_k121 : fd_chk fd_CT7 fd_CL7 fd_FT7 fd_PT7 fd_LT7 fd_p121 1 21 prog_8_method_14_code 0 fd_c121 fd_o121 = true := by decide +kernel
theorem fd_g121 : fd_P 121 := fd_Pof fd_x7 fd_l7 fd_k121 rfl rfl rfl rfl rfl rfl rfl rfl rfl rfl
theorem fd_k122 : fd_chk fd_CT7 fd_CL7 fd_FT7 fd_PT7 fd_LT7 fd_p122 3 63 prog_8_method_26_code 0 fd_c122 fd_o122 = true := by decide +kernel
theorem fd_g122 : fd_P 122 := fd_Pof fd_x7 fd_l7 fd_k122 rfl rfl rfl rfl rfl rfl rfl rfl rfl rfl
theorem fd_k123 : fd_chk fd_CT7 fd_CL7 fd_FT7 fd_PT7 fd_LT7 fd_p123 2 44 prog_8_method_27_code 0 fd_c123 fd_o123 = true := by decide +kernel
theorem fd_g123 : fd_P 123 := fd_Pof fd_x7 fd_l7 fd_k123 rfl rfl rfl rfl rfl rfl rfl rfl rfl rfl
theorem fd_k124 : fd_chk fd_CT7 fd_CL7 fd_FT7 fd_PT7 fd_LT7 fd_p124 0 0 prog_8_method_16_code 0 fd_c124 fd_o124 = true := by decide +kernel
theorem fd_g124 : fd_P 124 := fd_Pof fd_x7 fd_l7 fd_k124 rfl rfl rfl rfl rfl rfl rfl rfl rfl rfl
theorem fd_k125 : fd_chk fd_CT7 fd_CL7 fd_FT7 fd_PT7 fd_LT7 fd_p125 5 110 prog_8_method_31_code 0 fd_c125 fd_o125 = true := by decide +kernel
theorem fd_g125 : fd_P 125 := fd_Pof fd_x7 fd_l7 fd_k125 rfl rfl rfl rfl rfl rfl rfl rfl rfl rfl
theorem fd_k126 : fd_chk fd_CT7 fd_CL7 fd_FT7 fd_PT7 fd_LT7 fd_p126 1 22 prog_8_method_28_code 0 fd_c126 fd_o126 = true := by decide +kernel
theorem fd_g126 : fd_P 126 := fd_Pof fd_x7 fd_l7 fd_k126 rfl rfl rfl rfl rfl rfl rfl rfl rfl rfl
theorem fd_k127 : fd_chk fd_CT7 fd_CL7 fd_FT7 fd_PT7 fd_LT7 fd_p127 1 25 prog_8_method_29_code 0 fd_c127 fd_o127 = true := by decide +kernel
theorem fd_g127 : fd_P 127 := fd_Pof fd_x7 fd_l7 fd_k127 rfl rfl rfl rfl rfl rfl rfl rfl rfl rfl
theorem fd_k128 : fd_chk fd_CT7 fd_CL7 fd_FT7 fd_PT7 fd_LT7 fd_p128 0 0 prog_8_method_30_code 0 fd_c128 fd_o128 = true := by decide +kernel
theorem fd_g128 : fd_P 128 := fd_Pof fd_x7 fd_l7 fd_k128 rfl rfl rfl rfl rfl rfl rfl rfl rfl rfl
theorem fd_k129 : fd_chk fd_CT7 fd_CL7 fd_FT7 fd_PT7 fd_LT7 fd_p129 4 90 prog_8_method_13_code 0 fd_c129 fd_o129 = true := by decide +kernel
theorem fd_g129 : fd_P 129 := fd_Pof fd_x7 fd_l7 fd_k129 rfl rfl rfl rfl rfl rfl rfl rfl rfl rfl
theorem fd_k130 : fd_chk fd_CT7 fd_CL7 fd_FT7 fd_PT7 fd_LT7 fd_p130 3 65 prog_8_method_12_code 0 fd_c130 fd_o130 = true := by decide +kernel
theorem fd_g130 : fd_P 130 := fd_Pof fd_x7 fd_l7 fd_k130 rfl rfl rfl rfl rfl rfl rfl rfl rfl rfl
theorem fd_k131 : fd_chk fd_CT7 fd_CL7 fd_FT7 fd_PT7 fd_LT7 fd_p131 2 43 prog_8_method_11_code 0 fd_c131 fd_o131 = true := by decide +kernel
theorem fd_g131 : fd_P 131 := fd_Pof fd_x7 fd_l7 fd_k131 rfl rfl rfl rfl rfl rfl rfl rfl rfl rfl
theorem fd_k132 : fd_chk fd_CT7 fd_CL7 fd_FT7 fd_PT7 fd_LT7 fd_p132 1 22 prog_8_method_10_code 0 fd_c132 fd_o132 = true := by decide +kernel
theorem fd_g132 : fd_P 132 := fd_Pof fd_x7 fd_l7 fd_k132 rfl rfl rfl rfl rfl rfl rfl rfl rfl rfl
theorem fd_k133 : fd_chk fd_CT7 fd_CL7 fd_FT7 fd_PT7 fd_LT7 fd_p133 5 110 prog_8_method_32_code 0 fd_c133 fd_o133 = true := by decide +kernel
theorem fd_g133 : fd_P 133 := fd_Pof fd_x7 fd_l7 fd_k133 rfl rfl rfl rfl rfl rfl rfl rfl rfl rfl
theorem fd_k134 : fd_chk fd_CT7 fd_CL7 fd_FT7 fd_PT7 fd_LT7 fd_p134 5 110 prog_8_method_34_code 0 fd_c134 fd_o134 = true := by decide +kernel
theorem fd_g134 : fd_P 134 := fd_Pof fd_x7 fd_l7 fd_k134 rfl rfl rfl rfl rfl rfl rfl rfl rfl rfl
theorem fd_k135 : fd_chk fd_CT7 fd_CL7 fd_FT7 fd_PT7 fd_LT7 fd_p135 0 0 prog_8_method_33_code 0 fd_c135 fd_o135 = true := by decide +kernel
theorem fd_g135 : fd_P 135 := fd_Pof fd_x7 fd_l7 fd_k135 rfl rfl rfl rfl rfl rfl rfl rfl rfl rfl
theorem fd_k136 : fd_chk fd_CT7 fd_CL7 fd_FT7 fd_PT7 fd_LT7 fd_p136 1 23 prog_8_method_35_code 0 fd_c136 fd_o136 = true := by decide +kernel
theorem fd_g136 : fd_P 136 := fd_Pof fd_x7 fd_l7 fd_k136 rfl rfl rfl rfl rfl rfl rfl rfl rfl rfl
theorem fd_k137 : fd_chk fd_CT7 fd_CL7 fd_FT7 fd_PT7 fd_LT7 fd_p137 5 113 prog_8_method_46_code 0 fd_c137 fd_o137 = true := by decide +kernel
theorem fd_g137 : fd_P 137 := fd_Pof fd_x7 fd_l7 fd_k137 rfl rfl rfl rfl rfl rfl rfl rfl rfl rfl
theorem fd_k138 : fd_chk fd_CT7 fd_CL7 fd_FT7 fd_PT7 fd_LT7 fd_p138 4 92 prog_8_method_45_code 0 fd_c138 fd_o138 = true := by decide +kernel
theorem fd_g138 : fd_P 138 := fd_Pof fd_x7 fd_l7 fd_k138 rfl rfl rfl rfl rfl rfl rfl rfl rfl rfl
theorem fd_k139_0 : fd_chk fd_CT7 fd_CL7 fd_FT7 fd_PT7 fd_LT7 fd_p139 3 66 prog_8_method_44_code 0 ((fd_c139.drop 0).take 30) ((fd_o139.drop 0).take 30) = true := by decide +kernel
theorem fd_k139_1 : fd_chk fd_CT7 fd_CL7 fd_FT7 fd_PT7 fd_LT7 fd_p139 3 66 prog_8_method_44_code 30 ((fd_c139.drop 30).take 30) ((fd_o139.drop 30).take 30) = true := by decide +kernel
theorem fd_k139_2 : fd_chk fd_CT7 fd_CL7 fd_FT7 fd_PT7 fd_LT7 fd_p139 3 66 prog_8_method_44_code 60 ((fd_c139.drop 60).take 30) ((fd_o139.drop 60).take 30) = true := by decide +kernel
theorem fd_k139_3 : fd_chk fd_CT7 fd_CL7 fd_FT7 fd_PT7 fd_LT7 fd_p139 3 66 prog_8_method_44_code 90 ((fd_c139.drop 90).take 30) ((fd_o139.drop 90).take 30) = true := by decide +kernel
theorem fd_k139_4 : fd_chk fd_CT7 fd_CL7 fd_FT7 fd_PT7 fd_LT7 fd_p139 3 66 prog_8_method_44_code 120 ((fd_c139.drop 120).take 30) ((fd_o139.drop 120).take 30) = true := by decide +kernel
theorem fd_k139_5 : fd_chk fd_CT7 fd_CL7 fd_FT7 fd_PT7 fd_LT7 fd_p139 3 66 prog_8_method_44_code 150 ((fd_c139.drop 150).take 30) ((fd_o139.drop 150).take 30) = true := by decide +kernel
theorem fd_k139 (q : Nat) (hq : q < 6) : fd_chk fd_CT7 fd_CL7 fd_FT7 fd_PT7 fd_LT7 fd_p139 3 66 prog_8_method_44_code (30 * q) ((fd_c139.drop (30 * q)).take 30) ((fd_o139.drop (30 * q)).take 30) = true := match q, hq with
  | 0, _ => fd_k139_0
  | 1, _ => fd_k139_1
  | 2, _ => fd_k139_2
  | 3, _ => fd_k139_3
  | 4, _ => fd_k139_4
  | 5, _ => fd_k139_5
  | q + 6, h => absurd h (by omega)
theorem fd_g139 : fd_P 139 := fd_Pof2 6 (by decide +kernel) fd_x7 fd_l7 fd_k139 rfl rfl rfl rfl rfl rfl rfl rfl rfl rfl
theorem fd_k140 : fd_chk fd_CT7 fd_CL7 fd_FT7 fd_PT7 fd_LT7 fd_p140 0 0 prog_8_method_36_code 0 fd_c140 fd_o140 = true := by decide +kernel
theorem fd_g140 : fd_P 140 := fd_Pof fd_x7 fd_l7 fd_k140 rfl rfl rfl rfl rfl rfl rfl rfl rfl rfl
theorem fd_k141 : fd_chk fd_CT7 fd_CL7 fd_FT7 fd_PT7 fd_LT7 fd_p141 2 45 prog_8_method_40_code 0 fd_c141 fd_o141 = true := by decide +kernel
theorem fd_g141 : fd_P 141 := fd_Pof fd_x7 fd_l7 fd_k141 rfl rfl rfl rfl rfl rfl rfl rfl rfl rfl
theorem fd_k142 : fd_chk fd_CT7 fd_CL7 fd_FT7 fd_PT7 fd_LT7 fd_p142 0 0 prog_8_method_38_code 0 fd_c142 fd_o142 = true := by decide +kernel
theorem fd_g142 : fd_P 142 := fd_Pof fd_x7 fd_l7 fd_k142 rfl rfl rfl rfl rfl rfl rfl rfl rfl rfl
theorem fd_k143 : fd_chk fd_CT7 fd_CL7 fd_FT7 fd_PT7 fd_LT7 fd_p143 1 21 prog_8_method_39_code 0 fd_c143 fd_o143 = true := by decide +kernel
theorem fd_g143 : fd_P 143 := fd_Pof fd_x7 fd_l7 fd_k143 rfl rfl rfl rfl rfl rfl rfl rfl rfl rfl
theorem fd_k144 : fd_chk fd_CT7 fd_CL7 fd_FT7 fd_PT7 fd_LT7 fd_p144 2 45 prog_8_method_41_code 0 fd_c144 fd_o144 = true := by decide +kernel
theorem fd_g144 : fd_P 144 := fd_Pof fd_x7 fd_l7 fd_k144 rfl rfl rfl rfl rfl rfl rfl rfl rfl rfl
theorem fd_k145 : fd_chk fd_CT7 fd_CL7 fd_FT7 fd_PT7 fd_LT7 fd_p145 2 45 prog_8_method_42_code 0 fd_c145 fd_o145 = true := by decide +kernel
theorem fd_g145 : fd_P 145 := fd_Pof fd_x7 fd_l7 fd_k145 rfl rfl rfl rfl rfl rfl rfl rfl rfl rfl
theorem fd_k146 : fd_chk fd_CT7 fd_CL7 fd_FT7 fd_PT7 fd_LT7 fd_p146 1 22 prog_8_method_37_code 0 fd_c146 fd_o146 = true := by decide +kernel
theorem fd_g146 : fd_P 146 := fd_Pof fd_x7 fd_l7 fd_k146 rfl rfl rfl rfl rfl rfl rfl rfl rfl rfl
theorem fd_k147 : fd_chk fd_CT7 fd_CL7 fd_FT7 fd_PT7 fd_LT7 fd_p147 1 21 prog_8_method_43_code 0 fd_c147 fd_o147 = true := by decide +kernel
theorem fd_g147 : fd_P 147 := fd_Pof fd_x7 fd_l7 fd_k147 rfl rfl rfl rfl rfl rfl rfl rfl rfl rfl
theorem fd_k148 : fd_chk fd_CT7 fd_CL7 fd_FT7 fd_PT7 fd_LT7 fd_p148 4 90 prog_8_method_47_code 0 fd_c148 fd_o148 = true := by decide +kernel
theorem fd_g148 : fd_P 148 := fd_Pof fd_x7 fd_l7 fd_k148 rfl rfl rfl rfl rfl rfl rfl rfl rfl rfl
theorem fd_k149_0 : fd_chk fd_CT7 fd_CL7 fd_FT7 fd_PT7 fd_LT7 fd_p149 3 67 prog_8_method_23_code 0 ((fd_c149.drop 0).take 30) ((fd_o149.drop 0).take 30) = true := by decide +kernel
theorem fd_k149_1 : fd_chk fd_CT7 fd_CL7 fd_FT7 fd_PT7 fd_LT7 fd_p149 3 67 prog_8_method_23_code 30 ((fd_c149.drop 30).take 30) ((fd_o149.drop 30).take 30) = true := by decide +kernel
theorem fd_k149_2 : fd_chk fd_CT7 fd_CL7 fd_FT7 fd_PT7 fd_LT7 fd_p149 3 67 prog_8_method_23_code 60 ((fd_c149.drop 60).take 30) ((fd_o149.drop 60).take 30) = true := by decide +kernel
theorem fd_k149_3 : fd_chk fd_CT7 fd_CL7 fd_FT7 fd_PT7 fd_LT7 fd_p149 3 67 prog_8_method_23_code 90 ((fd_c149.drop 90).take 30) ((fd_o149.drop 90).take 30) = true := by decide +kernel
theorem fd_k149 (q : Nat) (hq : q < 4) : fd_chk fd_CT7 fd_CL7 fd_FT7 fd_PT7 fd_LT7 fd_p149 3 67 prog_8_method_23_code (30 * q) ((fd_c149.drop (30 * q)).take 30) ((fd_o149.drop (30 * q)).take 30) = true := match q, hq with
  | 0, _ => fd_k149_0
  | 1, _ => fd_k149_1
  | 2, _ => fd_k149_2
  | 3, _ => fd_k149_3
  | q + 4, h => absurd h (by omega)
theorem fd_g149 : fd_P 149 := fd_Pof2 4 (by decide +kernel) fd_x7 fd_l7 fd_k149 rfl rfl rfl rfl rfl rfl rfl rfl rfl rfl
theorem fd_k150 : fd_chk fd_CT7 fd_CL7 fd_FT7 fd_PT7 fd_LT7 fd_p150 1 21 prog_8_method_22_code 0 fd_c150 fd_o150 = true := by decide +kernel
theorem fd_g150 : fd_P 150 := fd_Pof fd_x7 fd_l7 fd_k150 rfl rfl rfl rfl rfl rfl rfl rfl rfl rfl
theorem fd_k151 : fd_chk fd_CT7 fd_CL7 fd_FT7 fd_PT7 fd_LT7 fd_p151 0 0 prog_8_method_9_code 0 fd_c151 fd_o151 = true := by decide +kernel
theorem fd_g151 : fd_P 151 := fd_Pof fd_x7 fd_l7 fd_k151 rfl rfl rfl rfl rfl rfl rfl rfl rfl rfl
theorem fd_k152 : fd_chk fd_CT7 fd_CL7 fd_FT7 fd_PT7 fd_LT7 fd_p152 2 43 prog_8_method_21_code 0 fd_c152 fd_o152 = true := by decide +kernel
theorem fd_g152 : fd_P 152 := fd_Pof fd_x7 fd_l7 fd_k152 rfl rfl rfl rfl rfl rfl rfl rfl rfl rfl
theorem fd_k153 : fd_chk fd_CT7 fd_CL7 fd_FT7 fd_PT7 fd_LT7 fd_p153 2 46 prog_8_method_19_code 0 fd_c153 fd_o153 = true := by decide +kernel
theorem fd_g153 : fd_P 153 := fd_Pof fd_x7 fd_l7 fd_k153 rfl rfl rfl rfl rfl rfl rfl rfl rfl rfl
theorem fd_k154 : fd_chk fd_CT7 fd_CL7 fd_FT7 fd_PT7 fd_LT7 fd_p154 1 20 prog_8_method_18_code 0 fd_c154 fd_o154 = true := by decide +kernel
theorem fd_g154 : fd_P 154 := fd_Pof fd_x7 fd_l7 fd_k154 rfl rfl rfl rfl rfl rfl rfl rfl rfl rfl
theorem fd_k155 : fd_chk fd_CT7 fd_CL7 fd_FT7 fd_PT7 fd_LT7 fd_p155 0 0 prog_8_method_17_code 0 fd_c155 fd_o155 = true := by decide +kernel
theorem fd_g155 : fd_P 155 := fd_Pof fd_x7 fd_l7 fd_k155 rfl rfl rfl rfl rfl rfl rfl rfl rfl rfl
theorem fd_k156 : fd_chk fd_CT7 fd_CL7 fd_FT7 fd_PT7 fd_LT7 fd_p156 4 98 prog_8_method_51_code 0 fd_c156 fd_o156 = true := by decide +kernel
theorem fd_g156 : fd_P 156 := fd_Pof fd_x7 fd_l7 fd_k156 rfl rfl rfl rfl rfl rfl rfl rfl rfl rfl
theorem fd_k157 : fd_chk fd_CT7 fd_CL7 fd_FT7 fd_PT7 fd_LT7 fd_p157 1 21 prog_8_method_48_code 0 fd_c157 fd_o157 = true := by decide +kernel
theorem fd_g157 : fd_P 157 := fd_Pof fd_x7 fd_l7 fd_k157 rfl rfl rfl rfl rfl rfl rfl rfl rfl rfl
theorem fd_k158 : fd_chk fd_CT7 fd_CL7 fd_FT7 fd_PT7 fd_LT7 fd_p158 3 74 prog_8_method_20_code 0 fd_c158 fd_o158 = true := by decide +kernel
theorem fd_g158 : fd_P 158 := fd_Pof fd_x7 fd_l7 fd_k158 rfl rfl rfl rfl rfl rfl rfl rfl rfl rfl
theorem fd_k159 : fd_chk fd_CT7 fd_CL7 fd_FT7 fd_PT7 fd_LT7 fd_p159 0 0 prog_8_method_49_code 0 fd_c159 fd_o159 = true := by decide +kernel
theorem fd_g159 : fd_P 159 := fd_Pof fd_x7 fd_l7 fd_k159 rfl rfl rfl rfl rfl rfl rfl rfl rfl rfl
theorem fd_k160 : fd_chk fd_CT7 fd_CL7 fd_FT7 fd_PT7 fd_LT7 fd_p160 0 0 prog_8_method_50_code 0 fd_c160 fd_o160 = true := by decide +kernel
theorem fd_g160 : fd_P 160 := fd_Pof fd_x7 fd_l7 fd_k160 rfl rfl rfl rfl rfl rfl rfl rfl rfl rfl
theorem fd_k161 : fd_chk fd_CT7 fd_CL7 fd_FT7 fd_PT7 fd_LT7 fd_p161 3 68 prog_8_method_54_code 0 fd_c161 fd_o161 = true := by decide +kernel
theorem fd_g161 : fd_P 161 := fd_Pof fd_x7 fd_l7 fd_k161 rfl rfl rfl rfl rfl rfl rfl rfl rfl rfl
theorem fd_k162 : fd_chk fd_CT7 fd_CL7 fd_FT7 fd_PT7 fd_LT7 fd_p162 2 44 prog_8_method_53_code 0 fd_c162 fd_o162 = true := by decide +kernel
theorem fd_g162 : fd_P 162 := fd_Pof fd_x7 fd_l7 fd_k162 rfl rfl rfl rfl rfl rfl rfl rfl rfl rfl
theorem fd_k163 : fd_chk fd_CT7 fd_CL7 fd_FT7 fd_PT7 fd_LT7 fd_p163 4 95 prog_8_method_56_code 0 fd_c163 fd_o163 = true := by decide +kernel
theorem fd_g163 : fd_P 163 := fd_Pof fd_x7 fd_l7 fd_k163 rfl rfl rfl rfl rfl rfl rfl rfl rfl rfl
theorem fd_k164 : fd_chk fd_CT7 fd_CL7 fd_FT7 fd_PT7 fd_LT7 fd_p164 3 68 prog_8_method_55_code 0 fd_c164 fd_o164 = true := by decide +kernel
theorem fd_g164 : fd_P 164 := fd_Pof fd_x7 fd_l7 fd_k164 rfl rfl rfl rfl rfl rfl rfl rfl rfl rfl
theorem fd_k165 : fd_chk fd_CT7 fd_CL7 fd_FT7 fd_PT7 fd_LT7 fd_p165 0 0 prog_8_method_52_code 0 fd_c165 fd_o165 = true := by decide +kernel
theorem fd_g165 : fd_P 165 := fd_Pof fd_x7 fd_l7 fd_k165 rfl rfl rfl rfl rfl rfl rfl rfl rfl rfl
theorem fd_k166 : fd_chk fd_CT7 fd_CL7 fd_FT7 fd_PT7 fd_LT7 fd_p166 4 90 prog_8_method_57_code 0 fd_c166 fd_o166 = true := by decide +kernel
theorem fd_g166 : fd_P 166 := fd_Pof fd_x7 fd_l7 fd_k166 rfl rfl rfl rfl rfl rfl rfl rfl rfl rfl
theorem fd_k167 : fd_chk fd_CT7 fd_CL7 fd_FT7 fd_PT7 fd_LT7 fd_p167 0 0 prog_8_method_24_code 0 fd_c167 fd_o167 = true := by decide +kernel
theorem fd_g167 : fd_P 167 := fd_Pof fd_x7 fd_l7 fd_k167 rfl rfl rfl rfl rfl rfl rfl rfl rfl rfl
theorem fd_k168 : fd_chk fd_CT7 fd_CL7 fd_FT7 fd_PT7 fd_LT7 fd_p168 5 122 prog_8_method_60_code 0 fd_c168 fd_o168 = true := by decide +kernel
theorem fd_g168 : fd_P 168 := fd_Pof fd_x7 fd_l7 fd_k168 rfl rfl rfl rfl rfl rfl rfl rfl rfl rfl
theorem fd_k169 : fd_chk fd_CT7 fd_CL7 fd_FT7 fd_PT7 fd_LT7 fd_p169 4 98 prog_8_method_58_code 0 fd_c169 fd_o169 = true := by decide +kernel
theorem fd_g169 : fd_P 169 := fd_Pof fd_x7 fd_l7 fd_k169 rfl rfl rfl rfl rfl rfl rfl rfl rfl rfl
theorem fd_k170 : fd_chk fd_CT7 fd_CL7 fd_FT7 fd_PT7 fd_LT7 fd_p170 0 0 prog_8_method_59_code 0 fd_c170 fd_o170 = true := by decide +kernel
theorem fd_g170 : fd_P 170 := fd_Pof fd_x7 fd_l7 fd_k170 rfl rfl rfl rfl rfl rfl rfl rfl rfl rfl
theorem fd_k171 : fd_chk fd_CT7 fd_CL7 fd_FT7 fd_PT7 fd_LT7 fd_p171 5 110 prog_8_method_61_code 0 fd_c171 fd_o171 = true := by decide +kernel
theorem fd_g171 : fd_P 171 := fd_Pof fd_x7 fd_l7 fd_k171 rfl rfl rfl rfl rfl rfl rfl rfl rfl rfl
theorem fd_k172 : fd_chk fd_CT7 fd_CL7 fd_FT7 fd_PT7 fd_LT7 fd_p172 0 0 prog_8_method_6_code 0 fd_c172 fd_o172 = true := by decide +kernel
theorem fd_g172 : fd_P 172 := fd_Pof fd_x7 fd_l7 fd_k172 rfl rfl rfl rfl rfl rfl rfl rfl rfl rfl
theorem fd_k173 : fd_chk fd_CT7 fd_CL7 fd_FT7 fd_PT7 fd_LT7 fd_p173 0 0 prog_8_method_7_code 0 fd_c173 fd_o173 = true := by decide +kernel
theorem fd_g173 : fd_P 173 := fd_Pof fd_x7 fd_l7 fd_k173 rfl rfl rfl rfl rfl rfl rfl rfl rfl rfl
theorem fd_k174 : fd_chk fd_CT7 fd_CL7 fd_FT7 fd_PT7 fd_LT7 fd_p174 5 110 prog_8_method_62_code 0 fd_c174 fd_o174 = true := by decide +kernel
theorem fd_g174 : fd_P 174 := fd_Pof fd_x7 fd_l7 fd_k174 rfl rfl rfl rfl rfl rfl rfl rfl rfl rfl
theorem fd_k175 : fd_chk fd_CT7 fd_CL7 fd_FT7 fd_PT7 fd_LT7 fd_p175 5 110 prog_8_method_63_code 0 fd_c175 fd_o175 = true := by decide +kernel
theorem fd_g175 : fd_P 175 := fd_Pof fd_x7 fd_l7 fd_k175 rfl rfl rfl rfl rfl rfl rfl rfl rfl rfl
theorem fd_k176 : fd_chk fd_CT7 fd_CL7 fd_FT7 fd_PT7 fd_LT7 fd_p176 0 0 prog_8_method_64_code 0 fd_c176 fd_o176 = true := by decide +kernel
theorem fd_g176 : fd_P 176 := fd_Pof fd_x7 fd_l7 fd_k176 rfl rfl rfl rfl rfl rfl rfl rfl rfl rfl
theorem fd_k177 : fd_chk fd_CT7 fd_CL7 fd_FT7 fd_PT7 fd_LT7 fd_p177 0 0 prog_8_method_65_code 0 fd_c177 fd_o177 = true := by decide +kernel
theorem fd_g177 : fd_P 177 := fd_Pof fd_x7 fd_l7 fd_k177 rfl rfl rfl rfl rfl rfl rfl rfl rfl rfl
theorem fd_k178 : fd_chk fd_CT7 fd_CL7 fd_FT7 fd_PT7 fd_LT7 fd_p178 5 113 prog_8_method_66_code 0 fd_c178 fd_o178 = true := by decide +kernel
theorem fd_g178 : fd_P 178 := fd_Pof fd_x7 fd_l7 fd_k178 rfl rfl rfl rfl rfl rfl rfl rfl rfl rfl
theorem fd_k179 : fd_chk fd_CT7 fd_CL7 fd_FT7 fd_PT7 fd_LT7 fd_p179 0 0 prog_8_method_67_code 0 fd_c179 fd_o179 = true := by decide +kernel
theorem fd_g179 : fd_P 179 := fd_Pof fd_x7 fd_l7 fd_k179 rfl rfl rfl rfl rfl rfl rfl rfl rfl rfl
theorem fd_k180 : fd_chk fd_CT7 fd_CL7 fd_FT7 fd_PT7 fd_LT7 fd_p180 5 122 prog_8_method_68_code 0 fd_c180 fd_o180 = true := by decide +kernel
theorem fd_g180 : fd_P 180 := fd_Pof fd_x7 fd_l7 fd_k180 rfl rfl rfl rfl rfl rfl rfl rfl rfl rfl
theorem fd_k181 : fd_chk fd_CT7 fd_CL7 fd_FT7 fd_PT7 fd_LT7 fd_p181 5 122 prog_8_method_69_code 0 fd_c181 fd_o181 = true := by decide +kernel
theorem fd_g181 : fd_P 181 := fd_Pof fd_x7 fd_l7 fd_k181 rfl rfl rfl rfl rfl rfl rfl rfl rfl rfl
theorem fd_k182 : fd_chk fd_CT8 fd_CL8 fd_FT8 fd_PT8 fd_LT8 fd_p182 0 0 prog_9_method_49_code 0 fd_c182 fd_o182 = true := by decide +kernel
theorem fd_g182 : fd_P 182 := fd_Pof fd_x8 fd_l8 fd_k182 rfl rfl rfl rfl rfl rfl rfl rfl rfl rfl
theorem fd_k183 : fd_chk fd_CT9 fd_CL9 fd_FT9 fd_PT9 fd_LT9 fd_p183 0 0 prog_12_method_103_code 0 fd_c183 fd_o183 = true := by decide +kernel
theorem fd_g183 : fd_P 183 := fd_Pof fd_x9 fd_l9 fd_k183 rfl rfl rfl rfl rfl rfl rfl rfl rfl rfl
theorem fd_k184 : fd_chk fd_CT0 fd_CL0 fd_FT0 fd_PT0 fd_LT0 fd_p184 0 0 prog_1_method_1_code 0 fd_c184 fd_o184 = true := by decide +kernel
theorem fd_g184 : fd_P 184 := fd_Pof fd_x0 fd_l0 fd_k184 rfl rfl rfl rfl rfl rfl rfl rfl rfl rfl
theorem fd_k185 : fd_chk fd_CT1 fd_CL1 fd_FT1 fd_PT1 fd_LT1 fd_p185 0 0 prog_2_method_1_code 0 fd_c185 fd_o185 = true := by decide +kernel
theorem fd_g185 : fd_P 185 := fd_Pof fd_x1 fd_l1 fd_k185 rfl rfl rfl rfl rfl rfl rfl rfl rfl rfl
theorem fd_k186 : fd_chk fd_CT2 fd_CL2 fd_FT2 fd_PT2 fd_LT2 fd_p186 0 0 prog_3_method_1_code 0 fd_c186 fd_o186 = true := by decide +kernel
theorem fd_g186 : fd_P 186 := fd_Pof fd_x2 fd_l2 fd_k186 rfl rfl rfl rfl rfl rfl rfl rfl rfl rfl
theorem fd_k187 : fd_chk fd_CT3 fd_CL3 fd_FT3 fd_PT3 fd_LT3 fd_p187 0 0 prog_4_method_1_code 0 fd_c187 fd_o187 = true := by decide +kernel
theorem fd_g187 : fd_P 187 := fd_Pof fd_x3 fd_l3 fd_k187 rfl rfl rfl rfl rfl rfl rfl rfl rfl rfl
theorem fd_k188 : fd_chk fd_CT4 fd_CL4 fd_FT4 fd_PT4 fd_LT4 fd_p188 0 0 prog_5_method_1_code 0 fd_c188 fd_o188 = true := by decide +kernel
theorem fd_g188 : fd_P 188 := fd_Pof fd_x4 fd_l4 fd_k188 rfl rfl rfl rfl rfl rfl rfl rfl rfl rfl
theorem fd_k189 : fd_chk fd_CT5 fd_CL5 fd_FT5 fd_PT5 fd_LT5 fd_p189 0 0 prog_6_method_1_code 0 fd_c189 fd_o189 = true := by decide +kernel
theorem fd_g189 : fd_P 189 := fd_Pof fd_x5 fd_l5 fd_k189 rfl rfl rfl rfl rfl rfl rfl rfl rfl rfl
theorem fd_k190 : fd_chk fd_CT7 fd_CL7 fd_FT7 fd_PT7 fd_LT7 fd_p190 0 0 prog_8_method_1_code 0 fd_c190 fd_o190 = true := by decide +kernel
theorem fd_g190 : fd_P 190 := fd_Pof fd_x7 fd_l7 fd_k190 rfl rfl rfl rfl rfl rfl rfl rfl rfl rfl
theorem fd_k191_0 : fd_chk fd_CT6 fd_CL6 fd_FT6 fd_PT6 fd_LT6 fd_p191 9 324 code 0 ((fd_c191.drop 0).take 30) ((fd_o191.drop 0).take 30) = true := by decide +kernel
theorem fd_k191_1 : fd_chk fd_CT6 fd_CL6 fd_FT6 fd_PT6 fd_LT6 fd_p191 9 324 code 30 ((fd_c191.drop 30).take 30) ((fd_o191.drop 30).take 30) = true := by decide +kernel
theorem fd_k191_2 : fd_chk fd_CT6 fd_CL6 fd_FT6 fd_PT6 fd_LT6 fd_p191 9 324 code 60 ((fd_c191.drop 60).take 30) ((fd_o191.drop 60).take 30) = true := by decide +kernel
theorem fd_k191_3 : fd_chk fd_CT6 fd_CL6 fd_FT6 fd_PT6 fd_LT6 fd_p191 9 324 code 90 ((fd_c191.drop 90).take 30) ((fd_o191.drop 90).take 30) = true := by decide +kernel
theorem fd_k191_4 : fd_chk fd_CT6 fd_CL6 fd_FT6 fd_PT6 fd_LT6 fd_p191 9 324 code 120 ((fd_c191.drop 120).take 30) ((fd_o191.drop 120).take 30) = true := by decide +kernel
theorem fd_k191_5 : fd_chk fd_CT6 fd_CL6 fd_FT6 fd_PT6 fd_LT6 fd_p191 9 324 code 150 ((fd_c191.drop 150).take 30) ((fd_o191.drop 150).take 30) = true := by decide +kernel
theorem fd_k191_6 : fd_chk fd_CT6 fd_CL6 fd_FT6 fd_PT6 fd_LT6 fd_p191 9 324 code 180 ((fd_c191.drop 180).take 30) ((fd_o191.drop 180).take 30) = true := by decide +kernel
theorem fd_k191_7 : fd_chk fd_CT6 fd_CL6 fd_FT6 fd_PT6 fd_LT6 fd_p191 9 324 code 210 ((fd_c191.drop 210).take 30) ((fd_o191.drop 210).take 30) = true := by decide +kernel
theorem fd_k191_8 : fd_chk fd_CT6 fd_CL6 fd_FT6 fd_PT6 fd_LT6 fd_p191 9 324 code 240 ((fd_c191.drop 240).take 30) ((fd_o191.drop 240).take 30) = true := by decide +kernel
theorem fd_k191_9 : fd_chk fd_CT6 fd_CL6 fd_FT6 fd_PT6 fd_LT6 fd_p191 9 324 code 270 ((fd_c191.drop 270).take 30) ((fd_o191.drop 270).take 30) = true := by decide +kernel
theorem fd_k191_10 : fd_chk fd_CT6 fd_CL6 fd_FT6 fd_PT6 fd_LT6 fd_p191 9 324 code 300 ((fd_c191.drop 300).take 30) ((fd_o191.drop 300).take 30) = true := by decide +kernel
theorem fd_k191_11 : fd_chk fd_CT6 fd_CL6 fd_FT6 fd_PT6 fd_LT6 fd_p191 9 324 code 330 ((fd_c191.drop 330).take 30) ((fd_o191.drop 330).take 30) = true := by decide +kernel
theorem fd_k191_12 : fd_chk fd_CT6 fd_CL6 fd_FT6 fd_PT6 fd_LT6 fd_p191 9 324 code 360 ((fd_c191.drop 360).take 30) ((fd_o191.drop 360).take 30) = true := by decide +kernel
theorem fd_k191_13 : fd_chk fd_CT6 fd_CL6 fd_FT6 fd_PT6 fd_LT6 fd_p191 9 324 code 390 ((fd_c191.drop 390).take 30) ((fd_o191.drop 390).take 30) = true := by decide +kernel
theorem fd_k191_14 : fd_chk fd_CT6 fd_CL6 fd_FT6 fd_PT6 fd_LT6 fd_p191 9 324 code 420 ((fd_c191.drop 420).take 30) ((fd_o191.drop 420).take 30) = true := by decide +kernel
theorem fd_k191_15 : fd_chk fd_CT6 fd_CL6 fd_FT6 fd_PT6 fd_LT6 fd_p191 9 324 code 450 ((fd_c191.drop 450).take 30) ((fd_o191.drop 450).take 30) = true := by decide +kernel
theorem fd_k191_16 : fd_chk fd_CT6 fd_CL6 fd_FT6 fd_PT6 fd_LT6 fd_p191 9 324 code 480 ((fd_c191.drop 480).take 30) ((fd_o191.drop 480).take 30) = true := by decide +kernel
theorem fd_k191_17 : fd_chk fd_CT6 fd_CL6 fd_FT6 fd_PT6 fd_LT6 fd_p191 9 324 code 510 ((fd_c191.drop 510).take 30) ((fd_o191.drop 510).take 30) = true := by decide +kernel
theorem fd_k191_18 : fd_chk fd_CT6 fd_CL6 fd_FT6 fd_PT6 fd_LT6 fd_p191 9 324 code 540 ((fd_c191.drop 540).take 30) ((fd_o191.drop 540).take 30) = true := by decide +kernel
theorem fd_k191 (q : Nat) (hq : q < 19) : fd_chk fd_CT6 fd_CL6 fd_FT6 fd_PT6 fd_LT6 fd_p191 9 324 code (30 * q) ((fd_c191.drop (30 * q)).take 30) ((fd_o191.drop (30 * q)).take 30) = true := match q, hq with
  | 0, _ => fd_k191_0
  | 1, _ => fd_k191_1
  | 2, _ => fd_k191_2
  | 3, _ => fd_k191_3
  | 4, _ => fd_k191_4
  | 5, _ => fd_k191_5
  | 6, _ => fd_k191_6
  | 7, _ => fd_k191_7
  | 8, _ => fd_k191_8
  | 9, _ => fd_k191_9
  | 10, _ => fd_k191_10
  | 11, _ => fd_k191_11
  | 12, _ => fd_k191_12
  | 13, _ => fd_k191_13
  | 14, _ => fd_k191_14
  | 15, _ => fd_k191_15
  | 16, _ => fd_k191_16
  | 17, _ => fd_k191_17
  | 18, _ => fd_k191_18
  | q + 19, h => absurd h (by omega)
theorem fd_g191 : fd_P 191 := fd_Pof2 19 (by decide +kernel) fd_x6 fd_l6 fd_k191 rfl rfl rfl rfl rfl rfl rfl rfl rfl rfl
theorem fd_k192 : fd_chk fd_CT1 fd_CL1 fd_FT1 fd_PT1 fd_LT1 fd_p192 0 0 prog_2_method_3_code 0 fd_c192 fd_o192 = true := by decide +kernel
theorem fd_g192 : fd_P 192 := fd_Pof fd_x1 fd_l1 fd_k192 rfl rfl rfl rfl rfl rfl rfl rfl rfl rfl

theorem fd_Pof {j : Nat} {own : String} {b : ByteArray} {CT CL : List (Nat × Int)} {FT PT : List (Nat × Nat × Nat)} {LT : List (Nat × Nat)} {pcs : List Nat} {rf rl : Nat} {cs : List Instr} {os : List (Instr × Nat)} (h1 : fx_Tab own fd_TG fd_cl CT CL FT PT LT) (h2 : ∀ q ∈ LT, q.2 < 1000000 → fx_MF fd_TG fd_cl fd_G fd_y fd_b fd_PC q.2 ∧ (Jvm.Cond.methodLink own q.1 (fd_y q.2) ∈ fd_TG ∨ ((fd_G q.2).2.2.2 = none ∧ ∃ host, (own, q.1, fd_y q.2, host) ∈ fd_NW)))
    (h3 : fd_chk CT CL FT PT LT pcs rf rl b 0 cs os = true) (e1 : (fd_y j).cls = own) (e2 : fd_CT j = CT) (e3 : fd_CL j = CL) (e4 : fd_FT j = FT) (e5 : fd_PT j = PT) (e6 : fd_LT j = LT) (e7 : fd_PC j = pcs) (e8 : fd_RO j = (rf, rl)) (e9 : fd_b j = b) (e10 : fd_C j = cs) : fd_P j := by
  unfold fd_P
  rw [e1, e2, e3, e4, e5, e6, e7, e8, e9, e10]
  refine ⟨fun i mm hi => ⟨h1, ?_⟩, fun idx k hk hn => h2 (idx, k) hk hn⟩
  have := fd_chk_get h3 hi
  rwa [Nat.zero_add] at this
theorem fd_Pof2 {j : Nat} {own : String} {b : ByteArray} {CT CL : List (Nat × Int)} {FT PT : List (Nat × Nat × Nat)} {LT : List (Nat × Nat)} {pcs : List Nat} {rf rl : Nat} {cs : List Instr} {os : List (Instr × Nat)} (n : Nat) (hn : cs.length ≤ 30 * n) (h1 : fx_Tab own fd_TG fd_cl CT CL FT PT LT) (h2 : ∀ q ∈ LT, q.2 < 1000000 → fx_MF fd_TG fd_cl fd_G fd_y fd_b fd_PC q.2 ∧ (Jvm.Cond.methodLink own q.1 (fd_y q.2) ∈ fd_TG ∨ ((fd_G q.2).2.2.2 = none ∧ ∃ host, (own, q.1, fd_y q.2, host) ∈ fd_NW)))
    (h3 : ∀ q, q < n → fd_chk CT CL FT PT LT pcs rf rl b (30 * q) ((cs.drop (30 * q)).take 30) ((os.drop (30 * q)).take 30) = true) (e1 : (fd_y j).cls = own) (e2 : fd_CT j = CT) (e3 : fd_CL j = CL) (e4 : fd_FT j = FT) (e5 : fd_PT j = PT) (e6 : fd_LT j = LT) (e7 : fd_PC j = pcs) (e8 : fd_RO j = (rf, rl)) (e9 : fd_b j = b) (e10 : fd_C j = cs) : fd_P j := by
  unfold fd_P
  rw [e1, e2, e3, e4, e5, e6, e7, e8, e9, e10]
  refine ⟨fun i mm hi => ⟨h1, ?_⟩, fun idx k hk hn => h2 (idx, k) hk hn⟩
  have hl := (List.getElem?_eq_some_iff.mp hi).1
  have := fd_chk_get (h3 (i / 30) (by omega)) (k := i % 30) (mm := mm) (by rw [List.getElem?_take_of_lt (by omega), List.getElem?_drop, show 30 * (i / 30) + i % 30 = i by omega]; exact hi)
  rwa [show 30 * (i / 30) + i % 30 = i by omega] at this
theorem fd_k1 : fd_chk fd_CT0 fd_CL0 fd_FT0 fd_PT0 fd_LT0 fd_p1 0 0 prog_1_method_28_code 0 fd_c1 fd_o1 = true := by decide +kernel
theorem fd_g1 : fd_P 1 := fd_Pof fd_x0 fd_l0 fd_k1 rfl rfl rfl rfl rfl rfl rfl rfl rfl rfl
theorem fd_k2 : fd_chk fd_CT0 fd_CL0 fd_FT0 fd_PT0 fd_LT0 fd_p2 0 0 prog_1_method_32_code 0 fd_c2 fd_o2 = true := by decide +kernel
theorem fd_g2 : fd_P 2 := fd_Pof fd_x0 fd_l0 fd_k2 rfl rfl rfl rfl rfl rfl rfl rfl rfl rfl
theorem fd_k3 : fd_chk fd_CT0 fd_CL0 fd_FT0 fd_PT0 fd_LT0 fd_p3 0 0 prog_1_method_35_code 0 fd_c3 fd_o3 = true := by decide +kernel
theorem fd_g3 : fd_P 3 := fd_Pof fd_x0 fd_l0 fd_k3 rfl rfl rfl rfl rfl rfl rfl rfl rfl rfl
theorem fd_k4 : fd_chk fd_CT0 fd_CL0 fd_FT0 fd_PT0 fd_LT0 fd_p4 0 0 prog_1_method_29_code 0 fd_c4 fd_o4 = true := by decide +kernel
theorem fd_g4 : fd_P 4 := fd_Pof fd_x0 fd_l0 fd_k4 rfl rfl rfl rfl rfl rfl rfl rfl rfl rfl
theorem fd_k5 : fd_chk fd_CT0 fd_CL0 fd_FT0 fd_PT0 fd_LT0 fd_p5 0 0 prog_1_method_37_code 0 fd_c5 fd_o5 = true := by decide +kernel
theorem fd_g5 : fd_P 5 := fd_Pof fd_x0 fd_l0 fd_k5 rfl rfl rfl rfl rfl rfl rfl rfl rfl rfl
theorem fd_k6 : fd_chk fd_CT0 fd_CL0 fd_FT0 fd_PT0 fd_LT0 fd_p6 0 0 prog_1_method_30_code 0 fd_c6 fd_o6 = true := by decide +kernel
theorem fd_g6 : fd_P 6 := fd_Pof fd_x0 fd_l0 fd_k6 rfl rfl rfl rfl rfl rfl rfl rfl rfl rfl
theorem fd_k7 : fd_chk fd_CT0 fd_CL0 fd_FT0 fd_PT0 fd_LT0 fd_p7 0 0 prog_1_method_38_code 0 fd_c7 fd_o7 = true := by decide +kernel
theorem fd_g7 : fd_P 7 := fd_Pof fd_x0 fd_l0 fd_k7 rfl rfl rfl rfl rfl rfl rfl rfl rfl rfl
theorem fd_k8 : fd_chk fd_CT0 fd_CL0 fd_FT0 fd_PT0 fd_LT0 fd_p8 4 86 prog_1_method_3_code 0 fd_c8 fd_o8 = true := by decide +kernel
theorem fd_g8 : fd_P 8 := fd_Pof fd_x0 fd_l0 fd_k8 rfl rfl rfl rfl rfl rfl rfl rfl rfl rfl
theorem fd_k9 : fd_chk fd_CT0 fd_CL0 fd_FT0 fd_PT0 fd_LT0 fd_p9 3 69 prog_1_method_4_code 0 fd_c9 fd_o9 = true := by decide +kernel
theorem fd_g9 : fd_P 9 := fd_Pof fd_x0 fd_l0 fd_k9 rfl rfl rfl rfl rfl rfl rfl rfl rfl rfl
theorem fd_k10 : fd_chk fd_CT0 fd_CL0 fd_FT0 fd_PT0 fd_LT0 fd_p10 4 86 prog_1_method_5_code 0 fd_c10 fd_o10 = true := by decide +kernel
theorem fd_g10 : fd_P 10 := fd_Pof fd_x0 fd_l0 fd_k10 rfl rfl rfl rfl rfl rfl rfl rfl rfl rfl
theorem fd_k11 : fd_chk fd_CT0 fd_CL0 fd_FT0 fd_PT0 fd_LT0 fd_p11 5 107 prog_1_method_6_code 0 fd_c11 fd_o11 = true := by decide +kernel
theorem fd_g11 : fd_P 11 := fd_Pof fd_x0 fd_l0 fd_k11 rfl rfl rfl rfl rfl rfl rfl rfl rfl rfl
theorem fd_k12 : fd_chk fd_CT0 fd_CL0 fd_FT0 fd_PT0 fd_LT0 fd_p12 5 107 prog_1_method_7_code 0 fd_c12 fd_o12 = true := by decide +kernel
theorem fd_g12 : fd_P 12 := fd_Pof fd_x0 fd_l0 fd_k12 rfl rfl rfl rfl rfl rfl rfl rfl rfl rfl
theorem fd_k13 : fd_chk fd_CT0 fd_CL0 fd_FT0 fd_PT0 fd_LT0 fd_p13 0 0 prog_1_method_33_code 0 fd_c13 fd_o13 = true := by decide +kernel
theorem fd_g13 : fd_P 13 := fd_Pof fd_x0 fd_l0 fd_k13 rfl rfl rfl rfl rfl rfl rfl rfl rfl rfl
theorem fd_k14 : fd_chk fd_CT0 fd_CL0 fd_FT0 fd_PT0 fd_LT0 fd_p14 5 107 prog_1_method_8_code 0 fd_c14 fd_o14 = true := by decide +kernel
theorem fd_g14 : fd_P 14 := fd_Pof fd_x0 fd_l0 fd_k14 rfl rfl rfl rfl rfl rfl rfl rfl rfl rfl
theorem fd_k15 : fd_chk fd_CT0 fd_CL0 fd_FT0 fd_PT0 fd_LT0 fd_p15 6 129 prog_1_method_9_code 0 fd_c15 fd_o15 = true := by decide +kernel
theorem fd_g15 : fd_P 15 := fd_Pof fd_x0 fd_l0 fd_k15 rfl rfl rfl rfl rfl rfl rfl rfl rfl rfl
theorem fd_k16 : fd_chk fd_CT0 fd_CL0 fd_FT0 fd_PT0 fd_LT0 fd_p16 6 138 prog_1_method_10_code 0 fd_c16 fd_o16 = true := by decide +kernel
theorem fd_g16 : fd_P 16 := fd_Pof fd_x0 fd_l0 fd_k16 rfl rfl rfl rfl rfl rfl rfl rfl rfl rfl
theorem fd_k17 : fd_chk fd_CT0 fd_CL0 fd_FT0 fd_PT0 fd_LT0 fd_p17 1 20 prog_1_method_39_code 0 fd_c17 fd_o17 = true := by decide +kernel
theorem fd_g17 : fd_P 17 := fd_Pof fd_x0 fd_l0 fd_k17 rfl rfl rfl rfl rfl rfl rfl rfl rfl rfl
theorem fd_k18 : fd_chk fd_CT0 fd_CL0 fd_FT0 fd_PT0 fd_LT0 fd_p18 0 0 prog_1_method_36_code 0 fd_c18 fd_o18 = true := by decide +kernel
theorem fd_g18 : fd_P 18 := fd_Pof fd_x0 fd_l0 fd_k18 rfl rfl rfl rfl rfl rfl rfl rfl rfl rfl
theorem fd_k19 : fd_chk fd_CT0 fd_CL0 fd_FT0 fd_PT0 fd_LT0 fd_p19 6 138 prog_1_method_11_code 0 fd_c19 fd_o19 = true := by decide +kernel
theorem fd_g19 : fd_P 19 := fd_Pof fd_x0 fd_l0 fd_k19 rfl rfl rfl rfl rfl rfl rfl rfl rfl rfl
theorem fd_k20 : fd_chk fd_CT0 fd_CL0 fd_FT0 fd_PT0 fd_LT0 fd_p20 5 106 prog_1_method_12_code 0 fd_c20 fd_o20 = true := by decide +kernel
theorem fd_g20 : fd_P 20 := fd_Pof fd_x0 fd_l0 fd_k20 rfl rfl rfl rfl rfl rfl rfl rfl rfl rfl
theorem fd_k21 : fd_chk fd_CT0 fd_CL0 fd_FT0 fd_PT0 fd_LT0 fd_p21 0 0 prog_1_method_31_code 0 fd_c21 fd_o21 = true := by decide +kernel
theorem fd_g21 : fd_P 21 := fd_Pof fd_x0 fd_l0 fd_k21 rfl rfl rfl rfl rfl rfl rfl rfl rfl rfl
theorem fd_k22 : fd_chk fd_CT0 fd_CL0 fd_FT0 fd_PT0 fd_LT0 fd_p22 6 129 prog_1_method_13_code 0 fd_c22 fd_o22 = true := by decide +kernel
theorem fd_g22 : fd_P 22 := fd_Pof fd_x0 fd_l0 fd_k22 rfl rfl rfl rfl rfl rfl rfl rfl rfl rfl
theorem fd_k23 : fd_chk fd_CT0 fd_CL0 fd_FT0 fd_PT0 fd_LT0 fd_p23 6 138 prog_1_method_14_code 0 fd_c23 fd_o23 = true := by decide +kernel
theorem fd_g23 : fd_P 23 := fd_Pof fd_x0 fd_l0 fd_k23 rfl rfl rfl rfl rfl rfl rfl rfl rfl rfl
theorem fd_k24 : fd_chk fd_CT0 fd_CL0 fd_FT0 fd_PT0 fd_LT0 fd_p24 6 138 prog_1_method_15_code 0 fd_c24 fd_o24 = true := by decide +kernel
theorem fd_g24 : fd_P 24 := fd_Pof fd_x0 fd_l0 fd_k24 rfl rfl rfl rfl rfl rfl rfl rfl rfl rfl
theorem fd_k25 : fd_chk fd_CT0 fd_CL0 fd_FT0 fd_PT0 fd_LT0 fd_p25 3 64 prog_1_method_16_code 0 fd_c25 fd_o25 = true := by decide +kernel
theorem fd_g25 : fd_P 25 := fd_Pof fd_x0 fd_l0 fd_k25 rfl rfl rfl rfl rfl rfl rfl rfl rfl rfl
theorem fd_k26 : fd_chk fd_CT0 fd_CL0 fd_FT0 fd_PT0 fd_LT0 fd_p26 6 129 prog_1_method_17_code 0 fd_c26 fd_o26 = true := by decide +kernel
theorem fd_g26 : fd_P 26 := fd_Pof fd_x0 fd_l0 fd_k26 rfl rfl rfl rfl rfl rfl rfl rfl rfl rfl
theorem fd_k27 : fd_chk fd_CT0 fd_CL0 fd_FT0 fd_PT0 fd_LT0 fd_p27 5 107 prog_1_method_18_code 0 fd_c27 fd_o27 = true := by decide +kernel
theorem fd_g27 : fd_P 27 := fd_Pof fd_x0 fd_l0 fd_k27 rfl rfl rfl rfl rfl rfl rfl rfl rfl rfl
theorem fd_k28 : fd_chk fd_CT0 fd_CL0 fd_FT0 fd_PT0 fd_LT0 fd_p28 6 129 prog_1_method_19_code 0 fd_c28 fd_o28 = true := by decide +kernel
theorem fd_g28 : fd_P 28 := fd_Pof fd_x0 fd_l0 fd_k28 rfl rfl rfl rfl rfl rfl rfl rfl rfl rfl
theorem fd_k29 : fd_chk fd_CT0 fd_CL0 fd_FT0 fd_PT0 fd_LT0 fd_p29 5 107 prog_1_method_20_code 0 fd_c29 fd_o29 = true := by decide +kernel
theorem fd_g29 : fd_P 29 := fd_Pof fd_x0 fd_l0 fd_k29 rfl rfl rfl rfl rfl rfl rfl rfl rfl rfl
theorem fd_k30 : fd_chk fd_CT0 fd_CL0 fd_FT0 fd_PT0 fd_LT0 fd_p30 6 138 prog_1_method_21_code 0 fd_c30 fd_o30 = true := by decide +kernel
theorem fd_g30 : fd_P 30 := fd_Pof fd_x0 fd_l0 fd_k30 rfl rfl rfl rfl rfl rfl rfl rfl rfl rfl
theorem fd_k34 : fd_chk fd_CT0 fd_CL0 fd_FT0 fd_PT0 fd_LT0 fd_p34 3 70 prog_1_method_25_code 0 fd_c34 fd_o34 = true := by decide +kernel
theorem fd_g34 : fd_P 34 := fd_Pof fd_x0 fd_l0 fd_k34 rfl rfl rfl rfl rfl rfl rfl rfl rfl rfl
theorem fd_k35 : fd_chk fd_CT0 fd_CL0 fd_FT0 fd_PT0 fd_LT0 fd_p35 5 108 prog_1_method_26_code 0 fd_c35 fd_o35 = true := by decide +kernel
theorem fd_g35 : fd_P 35 := fd_Pof fd_x0 fd_l0 fd_k35 rfl rfl rfl rfl rfl rfl rfl rfl rfl rfl
theorem fd_k36 : fd_chk fd_CT0 fd_CL0 fd_FT0 fd_PT0 fd_LT0 fd_p36 0 0 prog_1_method_34_code 0 fd_c36 fd_o36 = true := by decide +kernel
theorem fd_g36 : fd_P 36 := fd_Pof fd_x0 fd_l0 fd_k36 rfl rfl rfl rfl rfl rfl rfl rfl rfl rfl
theorem fd_k37 : fd_chk fd_CT0 fd_CL0 fd_FT0 fd_PT0 fd_LT0 fd_p37 5 108 prog_1_method_27_code 0 fd_c37 fd_o37 = true := by decide +kernel
theorem fd_g37 : fd_P 37 := fd_Pof fd_x0 fd_l0 fd_k37 rfl rfl rfl rfl rfl rfl rfl rfl rfl rfl
theorem fd_k38 : fd_chk fd_CT1 fd_CL1 fd_FT1 fd_PT1 fd_LT1 fd_p38 2 47 prog_2_method_4_code 0 fd_c38 fd_o38 = true := by decide +kernel
theorem fd_g38 : fd_P 38 := fd_Pof fd_x1 fd_l1 fd_k38 rfl rfl rfl rfl rfl rfl rfl rfl rfl rfl
theorem fd_k39 : fd_chk fd_CT1 fd_CL1 fd_FT1 fd_PT1 fd_LT1 fd_p39 0 0 prog_2_method_2_code 0 fd_c39 fd_o39 = true := by decide +kernel
theorem fd_g39 : fd_P 39 := fd_Pof fd_x1 fd_l1 fd_k39 rfl rfl rfl rfl rfl rfl rfl rfl rfl rfl
theorem fd_k40 : fd_chk fd_CT1 fd_CL1 fd_FT1 fd_PT1 fd_LT1 fd_p40 2 47 prog_2_method_5_code 0 fd_c40 fd_o40 = true := by decide +kernel
theorem fd_g40 : fd_P 40 := fd_Pof fd_x1 fd_l1 fd_k40 rfl rfl rfl rfl rfl rfl rfl rfl rfl rfl
theorem fd_k41 : fd_chk fd_CT2 fd_CL2 fd_FT2 fd_PT2 fd_LT2 fd_p41 5 116 prog_3_method_2_code 0 fd_c41 fd_o41 = true := by decide +kernel
theorem fd_g41 : fd_P 41 := fd_Pof fd_x2 fd_l2 fd_k41 rfl rfl rfl rfl rfl rfl rfl rfl rfl rfl
theorem fd_k42 : fd_chk fd_CT2 fd_CL2 fd_FT2 fd_PT2 fd_LT2 fd_p42 4 91 prog_3_method_3_code 0 fd_c42 fd_o42 = true := by decide +kernel
theorem fd_g42 : fd_P 42 := fd_Pof fd_x2 fd_l2 fd_k42 rfl rfl rfl rfl rfl rfl rfl rfl rfl rfl
theorem fd_k43 : fd_chk fd_CT2 fd_CL2 fd_FT2 fd_PT2 fd_LT2 fd_p43 0 0 prog_3_method_6_code 0 fd_c43 fd_o43 = true := by decide +kernel
theorem fd_g43 : fd_P 43 := fd_Pof fd_x2 fd_l2 fd_k43 rfl rfl rfl rfl rfl rfl rfl rfl rfl rfl
theorem fd_k44 : fd_chk fd_CT2 fd_CL2 fd_FT2 fd_PT2 fd_LT2 fd_p44 3 65 prog_3_method_4_code 0 fd_c44 fd_o44 = true := by decide +kernel
theorem fd_g44 : fd_P 44 := fd_Pof fd_x2 fd_l2 fd_k44 rfl rfl rfl rfl rfl rfl rfl rfl rfl rfl
theorem fd_k45 : fd_chk fd_CT2 fd_CL2 fd_FT2 fd_PT2 fd_LT2 fd_p45 2 41 prog_3_method_5_code 0 fd_c45 fd_o45 = true := by decide +kernel
theorem fd_g45 : fd_P 45 := fd_Pof fd_x2 fd_l2 fd_k45 rfl rfl rfl rfl rfl rfl rfl rfl rfl rfl
theorem fd_k46 : fd_chk fd_CT2 fd_CL2 fd_FT2 fd_PT2 fd_LT2 fd_p46 1 20 prog_3_method_8_code 0 fd_c46 fd_o46 = true := by decide +kernel
theorem fd_g46 : fd_P 46 := fd_Pof fd_x2 fd_l2 fd_k46 rfl rfl rfl rfl rfl rfl rfl rfl rfl rfl
theorem fd_k47 : fd_chk fd_CT2 fd_CL2 fd_FT2 fd_PT2 fd_LT2 fd_p47 2 41 prog_3_method_15_code 0 fd_c47 fd_o47 = true := by decide +kernel
theorem fd_g47 : fd_P 47 := fd_Pof fd_x2 fd_l2 fd_k47 rfl rfl rfl rfl rfl rfl rfl rfl rfl rfl
theorem fd_k48 : fd_chk fd_CT2 fd_CL2 fd_FT2 fd_PT2 fd_LT2 fd_p48 1 20 prog_3_method_11_code 0 fd_c48 fd_o48 = true := by decide +kernel
theorem fd_g48 : fd_P 48 := fd_Pof fd_x2 fd_l2 fd_k48 rfl rfl rfl rfl rfl rfl rfl rfl rfl rfl
theorem fd_k49 : fd_chk fd_CT2 fd_CL2 fd_FT2 fd_PT2 fd_LT2 fd_p49 0 0 prog_3_method_7_code 0 fd_c49 fd_o49 = true := by decide +kernel
theorem fd_g49 : fd_P 49 := fd_Pof fd_x2 fd_l2 fd_k49 rfl rfl rfl rfl rfl rfl rfl rfl rfl rfl
theorem fd_k50 : fd_chk fd_CT2 fd_CL2 fd_FT2 fd_PT2 fd_LT2 fd_p50 1 20 prog_3_method_9_code 0 fd_c50 fd_o50 = true := by decide +kernel
theorem fd_g50 : fd_P 50 := fd_Pof fd_x2 fd_l2 fd_k50 rfl rfl rfl rfl rfl rfl rfl rfl rfl rfl
theorem fd_k51 : fd_chk fd_CT2 fd_CL2 fd_FT2 fd_PT2 fd_LT2 fd_p51 1 20 prog_3_method_10_code 0 fd_c51 fd_o51 = true := by decide +kernel
theorem fd_g51 : fd_P 51 := fd_Pof fd_x2 fd_l2 fd_k51 rfl rfl rfl rfl rfl rfl rfl rfl rfl rfl
theorem fd_k52 : fd_chk fd_CT2 fd_CL2 fd_FT2 fd_PT2 fd_LT2 fd_p52 1 20 prog_3_method_12_code 0 fd_c52 fd_o52 = true := by decide +kernel
theorem fd_g52 : fd_P 52 := fd_Pof fd_x2 fd_l2 fd_k52 rfl rfl rfl rfl rfl rfl rfl rfl rfl rfl
theorem fd_k53 : fd_chk fd_CT2 fd_CL2 fd_FT2 fd_PT2 fd_LT2 fd_p53 1 20 prog_3_method_13_code 0 fd_c53 fd_o53 = true := by decide +kernel
theorem fd_g53 : fd_P 53 := fd_Pof fd_x2 fd_l2 fd_k53 rfl rfl rfl rfl rfl rfl rfl rfl rfl rfl
theorem fd_k54 : fd_chk fd_CT2 fd_CL2 fd_FT2 fd_PT2 fd_LT2 fd_p54 1 20 prog_3_method_14_code 0 fd_c54 fd_o54 = true := by decide +kernel
theorem fd_g54 : fd_P 54 := fd_Pof fd_x2 fd_l2 fd_k54 rfl rfl rfl rfl rfl rfl rfl rfl rfl rfl
theorem fd_k55 : fd_chk fd_CT2 fd_CL2 fd_FT2 fd_PT2 fd_LT2 fd_p55 2 41 prog_3_method_16_code 0 fd_c55 fd_o55 = true := by decide +kernel
theorem fd_g55 : fd_P 55 := fd_Pof fd_x2 fd_l2 fd_k55 rfl rfl rfl rfl rfl rfl rfl rfl rfl rfl
theorem fd_k56 : fd_chk fd_CT2 fd_CL2 fd_FT2 fd_PT2 fd_LT2 fd_p56 2 41 prog_3_method_17_code 0 fd_c56 fd_o56 = true := by decide +kernel
theorem fd_g56 : fd_P 56 := fd_Pof fd_x2 fd_l2 fd_k56 rfl rfl rfl rfl rfl rfl rfl rfl rfl rfl
theorem fd_k57 : fd_chk fd_CT2 fd_CL2 fd_FT2 fd_PT2 fd_LT2 fd_p57 2 41 prog_3_method_18_code 0 fd_c57 fd_o57 = true := by decide +kernel
theorem fd_g57 : fd_P 57 := fd_Pof fd_x2 fd_l2 fd_k57 rfl rfl rfl rfl rfl rfl rfl rfl rfl rfl
theorem fd_k71 : fd_chk fd_CT3 fd_CL3 fd_FT3 fd_PT3 fd_LT3 fd_p71 0 0 prog_4_method_2_code 0 fd_c71 fd_o71 = true := by decide +kernel
theorem fd_g71 : fd_P 71 := fd_Pof fd_x3 fd_l3 fd_k71 rfl rfl rfl rfl rfl rfl rfl rfl rfl rfl
theorem fd_k74 : fd_chk fd_CT4 fd_CL4 fd_FT4 fd_PT4 fd_LT4 fd_p74 2 47 prog_5_method_3_code 0 fd_c74 fd_o74 = true := by decide +kernel
theorem fd_g74 : fd_P 74 := fd_Pof fd_x4 fd_l4 fd_k74 rfl rfl rfl rfl rfl rfl rfl rfl rfl rfl
theorem fd_k75 : fd_chk fd_CT4 fd_CL4 fd_FT4 fd_PT4 fd_LT4 fd_p75 1 20 prog_5_method_2_code 0 fd_c75 fd_o75 = true := by decide +kernel
theorem fd_g75 : fd_P 75 := fd_Pof fd_x4 fd_l4 fd_k75 rfl rfl rfl rfl rfl rfl rfl rfl rfl rfl
theorem fd_k76 : fd_chk fd_CT4 fd_CL4 fd_FT4 fd_PT4 fd_LT4 fd_p76 2 47 prog_5_method_4_code 0 fd_c76 fd_o76 = true := by decide +kernel
theorem fd_g76 : fd_P 76 := fd_Pof fd_x4 fd_l4 fd_k76 rfl rfl rfl rfl rfl rfl rfl rfl rfl rfl
theorem fd_k77 : fd_chk fd_CT5 fd_CL5 fd_FT5 fd_PT5 fd_LT5 fd_p77 1 26 prog_6_method_2_code 0 fd_c77 fd_o77 = true := by decide +kernel
theorem fd_g77 : fd_P 77 := fd_Pof fd_x5 fd_l5 fd_k77 rfl rfl rfl rfl rfl rfl rfl rfl rfl rfl
theorem fd_k78 : fd_chk fd_CT5 fd_CL5 fd_FT5 fd_PT5 fd_LT5 fd_p78 1 21 prog_6_method_10_code 0 fd_c78 fd_o78 = true := by decide +kernel
theorem fd_g78 : fd_P 78 := fd_Pof fd_x5 fd_l5 fd_k78 rfl rfl rfl rfl rfl rfl rfl rfl rfl rfl
theorem fd_k80 : fd_chk fd_CT5 fd_CL5 fd_FT5 fd_PT5 fd_LT5 fd_p80 1 21 prog_6_method_8_code 0 fd_c80 fd_o80 = true := by decide +kernel
theorem fd_g80 : fd_P 80 := fd_Pof fd_x5 fd_l5 fd_k80 rfl rfl rfl rfl rfl rfl rfl rfl rfl rfl
theorem fd_k81 : fd_chk fd_CT5 fd_CL5 fd_FT5 fd_PT5 fd_LT5 fd_p81 3 64 prog_6_method_28_code 0 fd_c81 fd_o81 = true := by decide +kernel
theorem fd_g81 : fd_P 81 := fd_Pof fd_x5 fd_l5 fd_k81 rfl rfl rfl rfl rfl rfl rfl rfl rfl rfl
theorem fd_k82 : fd_chk fd_CT5 fd_CL5 fd_FT5 fd_PT5 fd_LT5 fd_p82 2 41 prog_6_method_7_code 0 fd_c82 fd_o82 = true := by decide +kernel
theorem fd_g82 : fd_P 82 := fd_Pof fd_x5 fd_l5 fd_k82 rfl rfl rfl rfl rfl rfl rfl rfl rfl rfl
theorem fd_k83 : fd_chk fd_CT5 fd_CL5 fd_FT5 fd_PT5 fd_LT5 fd_p83 1 20 prog_6_method_4_code 0 fd_c83 fd_o83 = true := by decide +kernel
theorem fd_g83 : fd_P 83 := fd_Pof fd_x5 fd_l5 fd_k83 rfl rfl rfl rfl rfl rfl rfl rfl rfl rfl
theorem fd_k84 : fd_chk fd_CT5 fd_CL5 fd_FT5 fd_PT5 fd_LT5 fd_p84 1 20 prog_6_method_3_code 0 fd_c84 fd_o84 = true := by decide +kernel
theorem fd_g84 : fd_P 84 := fd_Pof fd_x5 fd_l5 fd_k84 rfl rfl rfl rfl rfl rfl rfl rfl rfl rfl
theorem fd_k85 : fd_chk fd_CT5 fd_CL5 fd_FT5 fd_PT5 fd_LT5 fd_p85 1 21 prog_6_method_9_code 0 fd_c85 fd_o85 = true := by decide +kernel
theorem fd_g85 : fd_P 85 := fd_Pof fd_x5 fd_l5 fd_k85 rfl rfl rfl rfl rfl rfl rfl rfl rfl rfl
theorem fd_k86 : fd_chk fd_CT5 fd_CL5 fd_FT5 fd_PT5 fd_LT5 fd_p86 3 64 prog_6_method_11_code 0 fd_c86 fd_o86 = true := by decide +kernel
theorem fd_g86 : fd_P 86 := fd_Pof fd_x5 fd_l5 fd_k86 rfl rfl rfl rfl rfl rfl rfl rfl rfl rfl
theorem fd_k87 : fd_chk fd_CT5 fd_CL5 fd_FT5 fd_PT5 fd_LT5 fd_p87 3 65 prog_6_method_12_code 0 fd_c87 fd_o87 = true := by decide +kernel
theorem fd_g87 : fd_P 87 := fd_Pof fd_x5 fd_l5 fd_k87 rfl rfl rfl rfl rfl rfl rfl rfl rfl rfl
theorem fd_k88 : fd_chk fd_CT5 fd_CL5 fd_FT5 fd_PT5 fd_LT5 fd_p88 2 43 prog_6_method_14_code 0 fd_c88 fd_o88 = true := by decide +kernel
theorem fd_g88 : fd_P 88 := fd_Pof fd_x5 fd_l5 fd_k88 rfl rfl rfl rfl rfl rfl rfl rfl rfl rfl
theorem fd_k89 : fd_chk fd_CT5 fd_CL5 fd_FT5 fd_PT5 fd_LT5 fd_p89 4 85 prog_6_method_31_code 0 fd_c89 fd_o89 = true := by decide +kernel
theorem fd_g89 : fd_P 89 := fd_Pof fd_x5 fd_l5 fd_k89 rfl rfl rfl rfl rfl rfl rfl rfl rfl rfl
theorem fd_k90 : fd_chk fd_CT5 fd_CL5 fd_FT5 fd_PT5 fd_LT5 fd_p90 3 64 prog_6_method_24_code 0 fd_c90 fd_o90 = true := by decide +kernel
theorem fd_g90 : fd_P 90 := fd_Pof fd_x5 fd_l5 fd_k90 rfl rfl rfl rfl rfl rfl rfl rfl rfl rfl
theorem fd_k91 : fd_chk fd_CT5 fd_CL5 fd_FT5 fd_PT5 fd_LT5 fd_p91 3 64 prog_6_method_25_code 0 fd_c91 fd_o91 = true := by decide +kernel
theorem fd_g91 : fd_P 91 := fd_Pof fd_x5 fd_l5 fd_k91 rfl rfl rfl rfl rfl rfl rfl rfl rfl rfl
theorem fd_k92 : fd_chk fd_CT5 fd_CL5 fd_FT5 fd_PT5 fd_LT5 fd_p92 3 65 prog_6_method_13_code 0 fd_c92 fd_o92 = true := by decide +kernel
theorem fd_g92 : fd_P 92 := fd_Pof fd_x5 fd_l5 fd_k92 rfl rfl rfl rfl rfl rfl rfl rfl rfl rfl
theorem fd_k93 : fd_chk fd_CT5 fd_CL5 fd_FT5 fd_PT5 fd_LT5 fd_p93 0 0 prog_6_method_15_code 0 fd_c93 fd_o93 = true := by decide +kernel
theorem fd_g93 : fd_P 93 := fd_Pof fd_x5 fd_l5 fd_k93 rfl rfl rfl rfl rfl rfl rfl rfl rfl rfl
theorem fd_k94 : fd_chk fd_CT5 fd_CL5 fd_FT5 fd_PT5 fd_LT5 fd_p94 1 21 prog_6_method_16_code 0 fd_c94 fd_o94 = true := by decide +kernel
theorem fd_g94 : fd_P 94 := fd_Pof fd_x5 fd_l5 fd_k94 rfl rfl rfl rfl rfl rfl rfl rfl rfl rfl
theorem fd_k95 : fd_chk fd_CT5 fd_CL5 fd_FT5 fd_PT5 fd_LT5 fd_p95 5 106 prog_6_method_17_code 0 fd_c95 fd_o95 = true := by decide +kernel
theorem fd_g95 : fd_P 95 := fd_Pof fd_x5 fd_l5 fd_k95 rfl rfl rfl rfl rfl rfl rfl rfl rfl rfl
theorem fd_k96 : fd_chk fd_CT5 fd_CL5 fd_FT5 fd_PT5 fd_LT5 fd_p96 4 85 prog_6_method_26_code 0 fd_c96 fd_o96 = true := by decide +kernel
theorem fd_g96 : fd_P 96 := fd_Pof fd_x5 fd_l5 fd_k96 rfl rfl rfl rfl rfl rfl rfl rfl rfl rfl
theorem fd_k97 : fd_chk fd_CT5 fd_CL5 fd_FT5 fd_PT5 fd_LT5 fd_p97 2 42 prog_6_method_6_code 0 fd_c97 fd_o97 = true := by decide +kernel
theorem fd_g97 : fd_P 97 := fd_Pof fd_x5 fd_l5 fd_k97 rfl rfl rfl rfl rfl rfl rfl rfl rfl rfl
theorem fd_k98 : fd_chk fd_CT5 fd_CL5 fd_FT5 fd_PT5 fd_LT5 fd_p98 2 41 prog_6_method_5_code 0 fd_c98 fd_o98 = true := by decide +kernel
theorem fd_g98 : fd_P 98 := fd_Pof fd_x5 fd_l5 fd_k98 rfl rfl rfl rfl rfl rfl rfl rfl rfl rfl
theorem fd_k99 : fd_chk fd_CT5 fd_CL5 fd_FT5 fd_PT5 fd_LT5 fd_p99 1 20 prog_6_method_19_code 0 fd_c99 fd_o99 = true := by decide +kernel
theorem fd_g99 : fd_P 99 := fd_Pof fd_x5 fd_l5 fd_k99 rfl rfl rfl rfl rfl rfl rfl rfl rfl rfl
theorem fd_k100 : fd_chk fd_CT5 fd_CL5 fd_FT5 fd_PT5 fd_LT5 fd_p100 2 46 prog_6_method_36_code 0 fd_c100 fd_o100 = true := by decide +kernel
theorem fd_g100 : fd_P 100 := fd_Pof fd_x5 fd_l5 fd_k100 rfl rfl rfl rfl rfl rfl rfl rfl rfl rfl
theorem fd_k101 : fd_chk fd_CT5 fd_CL5 fd_FT5 fd_PT5 fd_LT5 fd_p101 1 21 prog_6_method_35_code 0 fd_c101 fd_o101 = true := by decide +kernel
theorem fd_g101 : fd_P 101 := fd_Pof fd_x5 fd_l5 fd_k101 rfl rfl rfl rfl rfl rfl rfl rfl rfl rfl
theorem fd_k102 : fd_chk fd_CT5 fd_CL5 fd_FT5 fd_PT5 fd_LT5 fd_p102 0 0 prog_6_method_34_code 0 fd_c102 fd_o102 = true := by decide +kernel
theorem fd_g102 : fd_P 102 := fd_Pof fd_x5 fd_l5 fd_k102 rfl rfl rfl rfl rfl rfl rfl rfl rfl rfl
theorem fd_k103 : fd_chk fd_CT5 fd_CL5 fd_FT5 fd_PT5 fd_LT5 fd_p103 3 74 prog_6_method_37_code 0 fd_c103 fd_o103 = true := by decide +kernel
theorem fd_g103 : fd_P 103 := fd_Pof fd_x5 fd_l5 fd_k103 rfl rfl rfl rfl rfl rfl rfl rfl rfl rfl
theorem fd_k104 : fd_chk fd_CT5 fd_CL5 fd_FT5 fd_PT5 fd_LT5 fd_p104 3 64 prog_6_method_32_code 0 fd_c104 fd_o104 = true := by decide +kernel
theorem fd_g104 : fd_P 104 := fd_Pof fd_x5 fd_l5 fd_k104 rfl rfl rfl rfl rfl rfl rfl rfl rfl rfl
theorem fd_k105 : fd_chk fd_CT5 fd_CL5 fd_FT5 fd_PT5 fd_LT5 fd_p105 2 41 prog_6_method_30_code 0 fd_c105 fd_o105 = true := by decide +kernel
theorem fd_g105 : fd_P 105 := fd_Pof fd_x5 fd_l5 fd_k105 rfl rfl rfl rfl rfl rfl rfl rfl rfl rfl
theorem fd_k106 : fd_chk fd_CT5 fd_CL5 fd_FT5 fd_PT5 fd_LT5 fd_p106 4 85 prog_6_method_27_code 0 fd_c106 fd_o106 = true := by decide +kernel
theorem fd_g106 : fd_P 106 := fd_Pof fd_x5 fd_l5 fd_k106 rfl rfl rfl rfl rfl rfl rfl rfl rfl rfl
theorem fd_k107 : fd_chk fd_CT5 fd_CL5 fd_FT5 fd_PT5 fd_LT5 fd_p107 0 0 prog_6_method_20_code 0 fd_c107 fd_o107 = true := by decide +kernel
theorem fd_g107 : fd_P 107 := fd_Pof fd_x5 fd_l5 fd_k107 rfl rfl rfl rfl rfl rfl rfl rfl rfl rfl
theorem fd_k108 : fd_chk fd_CT5 fd_CL5 fd_FT5 fd_PT5 fd_LT5 fd_p108 4 86 prog_6_method_21_code 0 fd_c108 fd_o108 = true := by decide +kernel
theorem fd_g108 : fd_P 108 := fd_Pof fd_x5 fd_l5 fd_k108 rfl rfl rfl rfl rfl rfl rfl rfl rfl rfl
theorem fd_k109 : fd_chk fd_CT5 fd_CL5 fd_FT5 fd_PT5 fd_LT5 fd_p109 5 106 prog_6_method_22_code 0 fd_c109 fd_o109 = true := by decide +kernel
theorem fd_g109 : fd_P 109 := fd_Pof fd_x5 fd_l5 fd_k109 rfl rfl rfl rfl rfl rfl rfl rfl rfl rfl
theorem fd_k110 : fd_chk fd_CT5 fd_CL5 fd_FT5 fd_PT5 fd_LT5 fd_p110 5 106 prog_6_method_23_code 0 fd_c110 fd_o110 = true := by decide +kernel
theorem fd_g110 : fd_P 110 := fd_Pof fd_x5 fd_l5 fd_k110 rfl rfl rfl rfl rfl rfl rfl rfl rfl rfl
theorem fd_k111 : fd_chk fd_CT5 fd_CL5 fd_FT5 fd_PT5 fd_LT5 fd_p111 4 86 prog_6_method_29_code 0 fd_c111 fd_o111 = true := by decide +kernel
theorem fd_g111 : fd_P 111 := fd_Pof fd_x5 fd_l5 fd_k111 rfl rfl rfl rfl rfl rfl rfl rfl rfl rfl
theorem fd_k112 : fd_chk fd_CT5 fd_CL5 fd_FT5 fd_PT5 fd_LT5 fd_p112 3 64 prog_6_method_33_code 0 fd_c112 fd_o112 = true := by decide +kernel
theorem fd_g112 : fd_P 112 := fd_Pof fd_x5 fd_l5 fd_k112 rfl rfl rfl rfl rfl rfl rfl rfl rfl rfl
theorem fd_k113 : fd_chk fd_CT5 fd_CL5 fd_FT5 fd_PT5 fd_LT5 fd_p113 4 97 prog_6_method_38_code 0 fd_c113 fd_o113 = true := by decide +kernel
theorem fd_g113 : fd_P 113 := fd_Pof fd_x5 fd_l5 fd_k113 rfl rfl rfl rfl rfl rfl rfl rfl rfl rfl
theorem fd_k182 : fd_chk fd_CT7 fd_CL7 fd_FT7 fd_PT7 fd_LT7 fd_p182 0 0 prog_9_method_49_code 0 fd_c182 fd_o182 = true := by decide +kernel
theorem fd_g182 : fd_P 182 := fd_Pof fd_x7 fd_l7 fd_k182 rfl rfl rfl rfl rfl rfl rfl rfl rfl rfl
theorem fd_k183 : fd_chk fd_CT8 fd_CL8 fd_FT8 fd_PT8 fd_LT8 fd_p183 0 0 prog_12_method_103_code 0 fd_c183 fd_o183 = true := by decide +kernel
theorem fd_g183 : fd_P 183 := fd_Pof fd_x8 fd_l8 fd_k183 rfl rfl rfl rfl rfl rfl rfl rfl rfl rfl
theorem fd_k184 : fd_chk fd_CT0 fd_CL0 fd_FT0 fd_PT0 fd_LT0 fd_p184 0 0 prog_1_method_1_code 0 fd_c184 fd_o184 = true := by decide +kernel
theorem fd_g184 : fd_P 184 := fd_Pof fd_x0 fd_l0 fd_k184 rfl rfl rfl rfl rfl rfl rfl rfl rfl rfl
theorem fd_k185 : fd_chk fd_CT1 fd_CL1 fd_FT1 fd_PT1 fd_LT1 fd_p185 0 0 prog_2_method_1_code 0 fd_c185 fd_o185 = true := by decide +kernel
theorem fd_g185 : fd_P 185 := fd_Pof fd_x1 fd_l1 fd_k185 rfl rfl rfl rfl rfl rfl rfl rfl rfl rfl
theorem fd_k186 : fd_chk fd_CT2 fd_CL2 fd_FT2 fd_PT2 fd_LT2 fd_p186 0 0 prog_3_method_1_code 0 fd_c186 fd_o186 = true := by decide +kernel
theorem fd_g186 : fd_P 186 := fd_Pof fd_x2 fd_l2 fd_k186 rfl rfl rfl rfl rfl rfl rfl rfl rfl rfl
theorem fd_k187 : fd_chk fd_CT3 fd_CL3 fd_FT3 fd_PT3 fd_LT3 fd_p187 0 0 prog_4_method_1_code 0 fd_c187 fd_o187 = true := by decide +kernel
theorem fd_g187 : fd_P 187 := fd_Pof fd_x3 fd_l3 fd_k187 rfl rfl rfl rfl rfl rfl rfl rfl rfl rfl
theorem fd_k188 : fd_chk fd_CT4 fd_CL4 fd_FT4 fd_PT4 fd_LT4 fd_p188 0 0 prog_5_method_1_code 0 fd_c188 fd_o188 = true := by decide +kernel
theorem fd_g188 : fd_P 188 := fd_Pof fd_x4 fd_l4 fd_k188 rfl rfl rfl rfl rfl rfl rfl rfl rfl rfl
theorem fd_k189 : fd_chk fd_CT5 fd_CL5 fd_FT5 fd_PT5 fd_LT5 fd_p189 0 0 prog_6_method_1_code 0 fd_c189 fd_o189 = true := by decide +kernel
theorem fd_g189 : fd_P 189 := fd_Pof fd_x5 fd_l5 fd_k189 rfl rfl rfl rfl rfl rfl rfl rfl rfl rfl
theorem fd_k191_0 : fd_chk fd_CT6 fd_CL6 fd_FT6 fd_PT6 fd_LT6 fd_p191 10 418 code 0 ((fd_c191.drop 0).take 30) ((fd_o191.drop 0).take 30) = true := by decide +kernel
theorem fd_k191_1 : fd_chk fd_CT6 fd_CL6 fd_FT6 fd_PT6 fd_LT6 fd_p191 10 418 code 30 ((fd_c191.drop 30).take 30) ((fd_o191.drop 30).take 30) = true := by decide +kernel
theorem fd_k191_2 : fd_chk fd_CT6 fd_CL6 fd_FT6 fd_PT6 fd_LT6 fd_p191 10 418 code 60 ((fd_c191.drop 60).take 30) ((fd_o191.drop 60).take 30) = true := by decide +kernel
theorem fd_k191_3 : fd_chk fd_CT6 fd_CL6 fd_FT6 fd_PT6 fd_LT6 fd_p191 10 418 code 90 ((fd_c191.drop 90).take 30) ((fd_o191.drop 90).take 30) = true := by decide +kernel
theorem fd_k191 (q : Nat) (hq : q < 4) : fd_chk fd_CT6 fd_CL6 fd_FT6 fd_PT6 fd_LT6 fd_p191 10 418 code (30 * q) ((fd_c191.drop (30 * q)).take 30) ((fd_o191.drop (30 * q)).take 30) = true := match q, hq with
  | 0, _ => fd_k191_0
  | 1, _ => fd_k191_1
  | 2, _ => fd_k191_2
  | 3, _ => fd_k191_3
  | q + 4, h => absurd h (by omega)
theorem fd_g191 : fd_P 191 := fd_Pof2 4 (by decide +kernel) fd_x6 fd_l6 fd_k191 rfl rfl rfl rfl rfl rfl rfl rfl rfl rfl
theorem fd_k192 : fd_chk fd_CT1 fd_CL1 fd_FT1 fd_PT1 fd_LT1 fd_p192 0 0 prog_2_method_3_code 0 fd_c192 fd_o192 = true := by decide +kernel
theorem fd_g192 : fd_P 192 := fd_Pof fd_x1 fd_l1 fd_k192 rfl rfl rfl rfl rfl rfl rfl rfl rfl rfl
theorem fd_k193 : fd_chk fd_CT6 fd_CL6 fd_FT6 fd_PT6 fd_LT6 fd_p193 0 0 method_2_code 0 fd_c193 fd_o193 = true := by decide +kernel
theorem fd_g193 : fd_P 193 := fd_Pof fd_x6 fd_l6 fd_k193 rfl rfl rfl rfl rfl rfl rfl rfl rfl rfl
theorem fd_k194 : fd_chk fd_CT6 fd_CL6 fd_FT6 fd_PT6 fd_LT6 fd_p194 0 0 method_3_code 0 fd_c194 fd_o194 = true := by decide +kernel
theorem fd_g194 : fd_P 194 := fd_Pof fd_x6 fd_l6 fd_k194 rfl rfl rfl rfl rfl rfl rfl rfl rfl rfl
theorem fd_k195_0 : fd_chk fd_CT6 fd_CL6 fd_FT6 fd_PT6 fd_LT6 fd_p195 7 162 method_4_code 0 ((fd_c195.drop 0).take 30) ((fd_o195.drop 0).take 30) = true := by decide +kernel
theorem fd_k195_1 : fd_chk fd_CT6 fd_CL6 fd_FT6 fd_PT6 fd_LT6 fd_p195 7 162 method_4_code 30 ((fd_c195.drop 30).take 30) ((fd_o195.drop 30).take 30) = true := by decide +kernel
theorem fd_k195_2 : fd_chk fd_CT6 fd_CL6 fd_FT6 fd_PT6 fd_LT6 fd_p195 7 162 method_4_code 60 ((fd_c195.drop 60).take 30) ((fd_o195.drop 60).take 30) = true := by decide +kernel
theorem fd_k195_3 : fd_chk fd_CT6 fd_CL6 fd_FT6 fd_PT6 fd_LT6 fd_p195 7 162 method_4_code 90 ((fd_c195.drop 90).take 30) ((fd_o195.drop 90).take 30) = true := by decide +kernel
theorem fd_k195_4 : fd_chk fd_CT6 fd_CL6 fd_FT6 fd_PT6 fd_LT6 fd_p195 7 162 method_4_code 120 ((fd_c195.drop 120).take 30) ((fd_o195.drop 120).take 30) = true := by decide +kernel
theorem fd_k195_5 : fd_chk fd_CT6 fd_CL6 fd_FT6 fd_PT6 fd_LT6 fd_p195 7 162 method_4_code 150 ((fd_c195.drop 150).take 30) ((fd_o195.drop 150).take 30) = true := by decide +kernel
theorem fd_k195_6 : fd_chk fd_CT6 fd_CL6 fd_FT6 fd_PT6 fd_LT6 fd_p195 7 162 method_4_code 180 ((fd_c195.drop 180).take 30) ((fd_o195.drop 180).take 30) = true := by decide +kernel
theorem fd_k195_7 : fd_chk fd_CT6 fd_CL6 fd_FT6 fd_PT6 fd_LT6 fd_p195 7 162 method_4_code 210 ((fd_c195.drop 210).take 30) ((fd_o195.drop 210).take 30) = true := by decide +kernel
theorem fd_k195_8 : fd_chk fd_CT6 fd_CL6 fd_FT6 fd_PT6 fd_LT6 fd_p195 7 162 method_4_code 240 ((fd_c195.drop 240).take 30) ((fd_o195.drop 240).take 30) = true := by decide +kernel
theorem fd_k195 (q : Nat) (hq : q < 9) : fd_chk fd_CT6 fd_CL6 fd_FT6 fd_PT6 fd_LT6 fd_p195 7 162 method_4_code (30 * q) ((fd_c195.drop (30 * q)).take 30) ((fd_o195.drop (30 * q)).take 30) = true := match q, hq with
  | 0, _ => fd_k195_0
  | 1, _ => fd_k195_1
  | 2, _ => fd_k195_2
  | 3, _ => fd_k195_3
  | 4, _ => fd_k195_4
  | 5, _ => fd_k195_5
  | 6, _ => fd_k195_6
  | 7, _ => fd_k195_7
  | 8, _ => fd_k195_8
  | q + 9, h => absurd h (by omega)
theorem fd_g195 : fd_P 195 := fd_Pof2 9 (by decide +kernel) fd_x6 fd_l6 fd_k195 rfl rfl rfl rfl rfl rfl rfl rfl rfl rfl
theorem fd_k196_0 : fd_chk fd_CT6 fd_CL6 fd_FT6 fd_PT6 fd_LT6 fd_p196 7 160 method_5_code 0 ((fd_c196.drop 0).take 30) ((fd_o196.drop 0).take 30) = true := by decide +kernel
theorem fd_k196_1 : fd_chk fd_CT6 fd_CL6 fd_FT6 fd_PT6 fd_LT6 fd_p196 7 160 method_5_code 30 ((fd_c196.drop 30).take 30) ((fd_o196.drop 30).take 30) = true := by decide +kernel
theorem fd_k196_2 : fd_chk fd_CT6 fd_CL6 fd_FT6 fd_PT6 fd_LT6 fd_p196 7 160 method_5_code 60 ((fd_c196.drop 60).take 30) ((fd_o196.drop 60).take 30) = true := by decide +kernel
theorem fd_k196_3 : fd_chk fd_CT6 fd_CL6 fd_FT6 fd_PT6 fd_LT6 fd_p196 7 160 method_5_code 90 ((fd_c196.drop 90).take 30) ((fd_o196.drop 90).take 30) = true := by decide +kernel
theorem fd_k196_4 : fd_chk fd_CT6 fd_CL6 fd_FT6 fd_PT6 fd_LT6 fd_p196 7 160 method_5_code 120 ((fd_c196.drop 120).take 30) ((fd_o196.drop 120).take 30) = true := by decide +kernel
theorem fd_k196_5 : fd_chk fd_CT6 fd_CL6 fd_FT6 fd_PT6 fd_LT6 fd_p196 7 160 method_5_code 150 ((fd_c196.drop 150).take 30) ((fd_o196.drop 150).take 30) = true := by decide +kernel
theorem fd_k196_6 : fd_chk fd_CT6 fd_CL6 fd_FT6 fd_PT6 fd_LT6 fd_p196 7 160 method_5_code 180 ((fd_c196.drop 180).take 30) ((fd_o196.drop 180).take 30) = true := by decide +kernel
theorem fd_k196 (q : Nat) (hq : q < 7) : fd_chk fd_CT6 fd_CL6 fd_FT6 fd_PT6 fd_LT6 fd_p196 7 160 method_5_code (30 * q) ((fd_c196.drop (30 * q)).take 30) ((fd_o196.drop (30 * q)).take 30) = true := match q, hq with
  | 0, _ => fd_k196_0
  | 1, _ => fd_k196_1
  | 2, _ => fd_k196_2
  | 3, _ => fd_k196_3
  | 4, _ => fd_k196_4
  | 5, _ => fd_k196_5
  | 6, _ => fd_k196_6
  | q + 7, h => absurd h (by omega)
theorem fd_g196 : fd_P 196 := fd_Pof2 7 (by decide +kernel) fd_x6 fd_l6 fd_k196 rfl rfl rfl rfl rfl rfl rfl rfl rfl rfl
theorem fd_k197_0 : fd_chk fd_CT6 fd_CL6 fd_FT6 fd_PT6 fd_LT6 fd_p197 7 162 method_6_code 0 ((fd_c197.drop 0).take 30) ((fd_o197.drop 0).take 30) = true := by decide +kernel
theorem fd_k197_1 : fd_chk fd_CT6 fd_CL6 fd_FT6 fd_PT6 fd_LT6 fd_p197 7 162 method_6_code 30 ((fd_c197.drop 30).take 30) ((fd_o197.drop 30).take 30) = true := by decide +kernel
theorem fd_k197_2 : fd_chk fd_CT6 fd_CL6 fd_FT6 fd_PT6 fd_LT6 fd_p197 7 162 method_6_code 60 ((fd_c197.drop 60).take 30) ((fd_o197.drop 60).take 30) = true := by decide +kernel
theorem fd_k197_3 : fd_chk fd_CT6 fd_CL6 fd_FT6 fd_PT6 fd_LT6 fd_p197 7 162 method_6_code 90 ((fd_c197.drop 90).take 30) ((fd_o197.drop 90).take 30) = true := by decide +kernel
theorem fd_k197_4 : fd_chk fd_CT6 fd_CL6 fd_FT6 fd_PT6 fd_LT6 fd_p197 7 162 method_6_code 120 ((fd_c197.drop 120).take 30) ((fd_o197.drop 120).take 30) = true := by decide +kernel
theorem fd_k197_5 : fd_chk fd_CT6 fd_CL6 fd_FT6 fd_PT6 fd_LT6 fd_p197 7 162 method_6_code 150 ((fd_c197.drop 150).take 30) ((fd_o197.drop 150).take 30) = true := by decide +kernel
theorem fd_k197_6 : fd_chk fd_CT6 fd_CL6 fd_FT6 fd_PT6 fd_LT6 fd_p197 7 162 method_6_code 180 ((fd_c197.drop 180).take 30) ((fd_o197.drop 180).take 30) = true := by decide +kernel
theorem fd_k197_7 : fd_chk fd_CT6 fd_CL6 fd_FT6 fd_PT6 fd_LT6 fd_p197 7 162 method_6_code 210 ((fd_c197.drop 210).take 30) ((fd_o197.drop 210).take 30) = true := by decide +kernel
theorem fd_k197 (q : Nat) (hq : q < 8) : fd_chk fd_CT6 fd_CL6 fd_FT6 fd_PT6 fd_LT6 fd_p197 7 162 method_6_code (30 * q) ((fd_c197.drop (30 * q)).take 30) ((fd_o197.drop (30 * q)).take 30) = true := match q, hq with
  | 0, _ => fd_k197_0
  | 1, _ => fd_k197_1
  | 2, _ => fd_k197_2
  | 3, _ => fd_k197_3
  | 4, _ => fd_k197_4
  | 5, _ => fd_k197_5
  | 6, _ => fd_k197_6
  | 7, _ => fd_k197_7
  | q + 8, h => absurd h (by omega)
theorem fd_g197 : fd_P 197 := fd_Pof2 8 (by decide +kernel) fd_x6 fd_l6 fd_k197 rfl rfl rfl rfl rfl rfl rfl rfl rfl rfl
theorem fd_k198_0 : fd_chk fd_CT6 fd_CL6 fd_FT6 fd_PT6 fd_LT6 fd_p198 7 162 method_7_code 0 ((fd_c198.drop 0).take 30) ((fd_o198.drop 0).take 30) = true := by decide +kernel
theorem fd_k198_1 : fd_chk fd_CT6 fd_CL6 fd_FT6 fd_PT6 fd_LT6 fd_p198 7 162 method_7_code 30 ((fd_c198.drop 30).take 30) ((fd_o198.drop 30).take 30) = true := by decide +kernel
theorem fd_k198_2 : fd_chk fd_CT6 fd_CL6 fd_FT6 fd_PT6 fd_LT6 fd_p198 7 162 method_7_code 60 ((fd_c198.drop 60).take 30) ((fd_o198.drop 60).take 30) = true := by decide +kernel
theorem fd_k198_3 : fd_chk fd_CT6 fd_CL6 fd_FT6 fd_PT6 fd_LT6 fd_p198 7 162 method_7_code 90 ((fd_c198.drop 90).take 30) ((fd_o198.drop 90).take 30) = true := by decide +kernel
theorem fd_k198_4 : fd_chk fd_CT6 fd_CL6 fd_FT6 fd_PT6 fd_LT6 fd_p198 7 162 method_7_code 120 ((fd_c198.drop 120).take 30) ((fd_o198.drop 120).take 30) = true := by decide +kernel
theorem fd_k198_5 : fd_chk fd_CT6 fd_CL6 fd_FT6 fd_PT6 fd_LT6 fd_p198 7 162 method_7_code 150 ((fd_c198.drop 150).take 30) ((fd_o198.drop 150).take 30) = true := by decide +kernel
theorem fd_k198_6 : fd_chk fd_CT6 fd_CL6 fd_FT6 fd_PT6 fd_LT6 fd_p198 7 162 method_7_code 180 ((fd_c198.drop 180).take 30) ((fd_o198.drop 180).take 30) = true := by decide +kernel
theorem fd_k198_7 : fd_chk fd_CT6 fd_CL6 fd_FT6 fd_PT6 fd_LT6 fd_p198 7 162 method_7_code 210 ((fd_c198.drop 210).take 30) ((fd_o198.drop 210).take 30) = true := by decide +kernel
theorem fd_k198_8 : fd_chk fd_CT6 fd_CL6 fd_FT6 fd_PT6 fd_LT6 fd_p198 7 162 method_7_code 240 ((fd_c198.drop 240).take 30) ((fd_o198.drop 240).take 30) = true := by decide +kernel
theorem fd_k198_9 : fd_chk fd_CT6 fd_CL6 fd_FT6 fd_PT6 fd_LT6 fd_p198 7 162 method_7_code 270 ((fd_c198.drop 270).take 30) ((fd_o198.drop 270).take 30) = true := by decide +kernel
theorem fd_k198_10 : fd_chk fd_CT6 fd_CL6 fd_FT6 fd_PT6 fd_LT6 fd_p198 7 162 method_7_code 300 ((fd_c198.drop 300).take 30) ((fd_o198.drop 300).take 30) = true := by decide +kernel
theorem fd_k198_11 : fd_chk fd_CT6 fd_CL6 fd_FT6 fd_PT6 fd_LT6 fd_p198 7 162 method_7_code 330 ((fd_c198.drop 330).take 30) ((fd_o198.drop 330).take 30) = true := by decide +kernel
theorem fd_k198_12 : fd_chk fd_CT6 fd_CL6 fd_FT6 fd_PT6 fd_LT6 fd_p198 7 162 method_7_code 360 ((fd_c198.drop 360).take 30) ((fd_o198.drop 360).take 30) = true := by decide +kernel
theorem fd_k198_13 : fd_chk fd_CT6 fd_CL6 fd_FT6 fd_PT6 fd_LT6 fd_p198 7 162 method_7_code 390 ((fd_c198.drop 390).take 30) ((fd_o198.drop 390).take 30) = true := by decide +kernel
theorem fd_k198_14 : fd_chk fd_CT6 fd_CL6 fd_FT6 fd_PT6 fd_LT6 fd_p198 7 162 method_7_code 420 ((fd_c198.drop 420).take 30) ((fd_o198.drop 420).take 30) = true := by decide +kernel
theorem fd_k198 (q : Nat) (hq : q < 15) : fd_chk fd_CT6 fd_CL6 fd_FT6 fd_PT6 fd_LT6 fd_p198 7 162 method_7_code (30 * q) ((fd_c198.drop (30 * q)).take 30) ((fd_o198.drop (30 * q)).take 30) = true := match q, hq with
  | 0, _ => fd_k198_0
  | 1, _ => fd_k198_1
  | 2, _ => fd_k198_2
  | 3, _ => fd_k198_3
  | 4, _ => fd_k198_4
  | 5, _ => fd_k198_5
  | 6, _ => fd_k198_6
  | 7, _ => fd_k198_7
  | 8, _ => fd_k198_8
  | 9, _ => fd_k198_9
  | 10, _ => fd_k198_10
  | 11, _ => fd_k198_11
  | 12, _ => fd_k198_12
  | 13, _ => fd_k198_13
  | 14, _ => fd_k198_14
  | q + 15, h => absurd h (by omega)
theorem fd_g198 : fd_P 198 := fd_Pof2 15 (by decide +kernel) fd_x6 fd_l6 fd_k198 rfl rfl rfl rfl rfl rfl rfl rfl rfl rfl

section
-- ===== PART A: goes FIRST, ahead of the names: the tables' words, and 'selects' of the private methods out of them =====
/-- a private method of a class that the tables say can be made, by its rows of tables_1 -/
def lw_okq (q : MethodName × Nat) : Prop := (q.1.cls ≠ "java/lang/invoke/MethodHandle" ∧ q.1.cls ≠ "java/lang/invoke/VarHandle") ∧ Cond.instantiable q.1.cls q.2 ∈ tables_1 ∧ Cond.privateMethod q.1 ∈ tables_1 ∧ Cond.instanceMethod q.1 ∈ tables_1
theorem lw_p0 : lw_okq (⟨"FoldedStrips$Pad", "canStand", "(II)Z"⟩, 2) := ⟨⟨by decide +kernel, by decide +kernel⟩, List.mem_of_getElem? (i := 70) (by decide +kernel), List.mem_of_getElem? (i := 151) (by decide +kernel), List.mem_of_getElem? (i := 152) (by decide +kernel)⟩
theorem lw_p1 : lw_okq (⟨"FoldedStrips$Pad", "columnAt", "(I)I"⟩, 2) := ⟨⟨by decide +kernel, by decide +kernel⟩, List.mem_of_getElem? (i := 70) (by decide +kernel), List.mem_of_getElem? (i := 155) (by decide +kernel), List.mem_of_getElem? (i := 156) (by decide +kernel)⟩
theorem lw_p2 : lw_okq (⟨"FoldedStrips$Pad", "charAt", "(I)C"⟩, 2) := ⟨⟨by decide +kernel, by decide +kernel⟩, List.mem_of_getElem? (i := 70) (by decide +kernel), List.mem_of_getElem? (i := 159) (by decide +kernel), List.mem_of_getElem? (i := 160) (by decide +kernel)⟩
theorem lw_p3 : lw_okq (⟨"FoldedStrips$Pad", "canClose", "(II)Z"⟩, 2) := ⟨⟨by decide +kernel, by decide +kernel⟩, List.mem_of_getElem? (i := 70) (by decide +kernel), List.mem_of_getElem? (i := 176) (by decide +kernel), List.mem_of_getElem? (i := 177) (by decide +kernel)⟩
theorem lw_p4 : lw_okq (⟨"FoldedStrips$Pad", "secondEnd", "(I)I"⟩, 2) := ⟨⟨by decide +kernel, by decide +kernel⟩, List.mem_of_getElem? (i := 70) (by decide +kernel), List.mem_of_getElem? (i := 180) (by decide +kernel), List.mem_of_getElem? (i := 181) (by decide +kernel)⟩
theorem lw_p5 : lw_okq (⟨"FoldedStrips$Pad", "firstEnd", "(I)I"⟩, 2) := ⟨⟨by decide +kernel, by decide +kernel⟩, List.mem_of_getElem? (i := 70) (by decide +kernel), List.mem_of_getElem? (i := 185) (by decide +kernel), List.mem_of_getElem? (i := 186) (by decide +kernel)⟩
theorem lw_p6 : lw_okq (⟨"FoldedStrips$Strip", "liftOff", "(I)V"⟩, 3) := ⟨⟨by decide +kernel, by decide +kernel⟩, List.mem_of_getElem? (i := 21) (by decide +kernel), List.mem_of_getElem? (i := 293) (by decide +kernel), List.mem_of_getElem? (i := 294) (by decide +kernel)⟩
theorem lw_p7 : lw_okq (⟨"FoldedStrips$Lines", "addLine", "(LFoldedStrips$Strip;I)V"⟩, 8) := ⟨⟨by decide +kernel, by decide +kernel⟩, List.mem_of_getElem? (i := 38) (by decide +kernel), List.mem_of_getElem? (i := 366) (by decide +kernel), List.mem_of_getElem? (i := 367) (by decide +kernel)⟩
theorem lw_p8 : lw_okq (⟨"FoldedStrips$Lines", "follow", "(LFoldedStrips$Strip;II)I"⟩, 8) := ⟨⟨by decide +kernel, by decide +kernel⟩, List.mem_of_getElem? (i := 38) (by decide +kernel), List.mem_of_getElem? (i := 373) (by decide +kernel), List.mem_of_getElem? (i := 374) (by decide +kernel)⟩
theorem lw_p9 : lw_okq (⟨"FoldedStrips$Lines", "take", "(LFoldedStrips$Strip;III)V"⟩, 8) := ⟨⟨by decide +kernel, by decide +kernel⟩, List.mem_of_getElem? (i := 38) (by decide +kernel), List.mem_of_getElem? (i := 384) (by decide +kernel), List.mem_of_getElem? (i := 385) (by decide +kernel)⟩
theorem lw_p10 : lw_okq (⟨"FoldedStrips", "countOfLines", "(I)I"⟩, 6) := ⟨⟨by decide +kernel, by decide +kernel⟩, List.mem_of_getElem? (i := 13) (by decide +kernel), List.mem_of_getElem? (i := 536) (by decide +kernel), List.mem_of_getElem? (i := 537) (by decide +kernel)⟩
theorem lw_p11 : lw_okq (⟨"FoldedStrips", "looseEndsIfSlid", "(II)I"⟩, 6) := ⟨⟨by decide +kernel, by decide +kernel⟩, List.mem_of_getElem? (i := 13) (by decide +kernel), List.mem_of_getElem? (i := 560) (by decide +kernel), List.mem_of_getElem? (i := 561) (by decide +kernel)⟩
theorem lw_p12 : lw_okq (⟨"FoldedStrips", "looseEndsIfExchanged", "(II)I"⟩, 6) := ⟨⟨by decide +kernel, by decide +kernel⟩, List.mem_of_getElem? (i := 13) (by decide +kernel), List.mem_of_getElem? (i := 569) (by decide +kernel), List.mem_of_getElem? (i := 570) (by decide +kernel)⟩
theorem lw_p13 : lw_okq (⟨"FoldedStripsModel", "has", "(I)Z"⟩, 20) := ⟨⟨by decide +kernel, by decide +kernel⟩, List.mem_of_getElem? (i := 631) (by decide +kernel), List.mem_of_getElem? (i := 711) (by decide +kernel), List.mem_of_getElem? (i := 712) (by decide +kernel)⟩
theorem lw_p14 : lw_okq (⟨"FoldedStripsModel", "record", "()V"⟩, 20) := ⟨⟨by decide +kernel, by decide +kernel⟩, List.mem_of_getElem? (i := 631) (by decide +kernel), List.mem_of_getElem? (i := 715) (by decide +kernel), List.mem_of_getElem? (i := 716) (by decide +kernel)⟩
theorem lw_p15 : lw_okq (⟨"FoldedStripsModel", "joins", "(III)V"⟩, 20) := ⟨⟨by decide +kernel, by decide +kernel⟩, List.mem_of_getElem? (i := 631) (by decide +kernel), List.mem_of_getElem? (i := 719) (by decide +kernel), List.mem_of_getElem? (i := 720) (by decide +kernel)⟩
def lw_privs_1 : List (MethodName × Nat) := [(⟨"FoldedStrips$Pad", "canStand", "(II)Z"⟩, 2), (⟨"FoldedStrips$Pad", "columnAt", "(I)I"⟩, 2), (⟨"FoldedStrips$Pad", "charAt", "(I)C"⟩, 2), (⟨"FoldedStrips$Pad", "canClose", "(II)Z"⟩, 2), (⟨"FoldedStrips$Pad", "secondEnd", "(I)I"⟩, 2), (⟨"FoldedStrips$Pad", "firstEnd", "(I)I"⟩, 2), (⟨"FoldedStrips$Strip", "liftOff", "(I)V"⟩, 3), (⟨"FoldedStrips$Lines", "addLine", "(LFoldedStrips$Strip;I)V"⟩, 8), (⟨"FoldedStrips$Lines", "follow", "(LFoldedStrips$Strip;II)I"⟩, 8), (⟨"FoldedStrips$Lines", "take", "(LFoldedStrips$Strip;III)V"⟩, 8), (⟨"FoldedStrips", "countOfLines", "(I)I"⟩, 6), (⟨"FoldedStrips", "looseEndsIfSlid", "(II)I"⟩, 6), (⟨"FoldedStrips", "looseEndsIfExchanged", "(II)I"⟩, 6), (⟨"FoldedStripsModel", "has", "(I)Z"⟩, 20), (⟨"FoldedStripsModel", "record", "()V"⟩, 20), (⟨"FoldedStripsModel", "joins", "(III)V"⟩, 20)]
theorem lw_r1 : ∀ q ∈ lw_privs_1, lw_okq q := List.forall_mem_cons.mpr ⟨lw_p0, List.forall_mem_cons.mpr ⟨lw_p1, List.forall_mem_cons.mpr ⟨lw_p2, List.forall_mem_cons.mpr ⟨lw_p3, List.forall_mem_cons.mpr ⟨lw_p4, List.forall_mem_cons.mpr ⟨lw_p5, List.forall_mem_cons.mpr ⟨lw_p6, List.forall_mem_cons.mpr ⟨lw_p7, List.forall_mem_cons.mpr ⟨lw_p8, List.forall_mem_cons.mpr ⟨lw_p9, List.forall_mem_cons.mpr ⟨lw_p10, List.forall_mem_cons.mpr ⟨lw_p11, List.forall_mem_cons.mpr ⟨lw_p12, List.forall_mem_cons.mpr ⟨lw_p13, List.forall_mem_cons.mpr ⟨lw_p14, List.forall_mem_cons.mpr ⟨lw_p15, fun _ h => absurd h List.not_mem_nil⟩⟩⟩⟩⟩⟩⟩⟩⟩⟩⟩⟩⟩⟩⟩⟩
theorem lw_p16 : lw_okq (⟨"FoldedStripsModel", "strokesOf", "(I)I"⟩, 20) := ⟨⟨by decide +kernel, by decide +kernel⟩, List.mem_of_getElem? (i := 631) (by decide +kernel), List.mem_of_getElem? (i := 723) (by decide +kernel), List.mem_of_getElem? (i := 724) (by decide +kernel)⟩
theorem lw_p17 : lw_okq (⟨"FoldedStripsModel", "rubsAll", "(I)V"⟩, 20) := ⟨⟨by decide +kernel, by decide +kernel⟩, List.mem_of_getElem? (i := 631) (by decide +kernel), List.mem_of_getElem? (i := 735) (by decide +kernel), List.mem_of_getElem? (i := 736) (by decide +kernel)⟩
theorem lw_p18 : lw_okq (⟨"FoldedStripsModel", "canSlide", "(II)Z"⟩, 20) := ⟨⟨by decide +kernel, by decide +kernel⟩, List.mem_of_getElem? (i := 631) (by decide +kernel), List.mem_of_getElem? (i := 743) (by decide +kernel), List.mem_of_getElem? (i := 744) (by decide +kernel)⟩
theorem lw_p19 : lw_okq (⟨"FoldedStripsModel", "lays", "(IIZZ)V"⟩, 20) := ⟨⟨by decide +kernel, by decide +kernel⟩, List.mem_of_getElem? (i := 631) (by decide +kernel), List.mem_of_getElem? (i := 747) (by decide +kernel), List.mem_of_getElem? (i := 748) (by decide +kernel)⟩
theorem lw_p20 : lw_okq (⟨"FoldedStripsModel", "loose", "()I"⟩, 20) := ⟨⟨by decide +kernel, by decide +kernel⟩, List.mem_of_getElem? (i := 631) (by decide +kernel), List.mem_of_getElem? (i := 754) (by decide +kernel), List.mem_of_getElem? (i := 755) (by decide +kernel)⟩
theorem lw_p21 : lw_okq (⟨"FoldedStripsModel", "ends", "(III)I"⟩, 20) := ⟨⟨by decide +kernel, by decide +kernel⟩, List.mem_of_getElem? (i := 631) (by decide +kernel), List.mem_of_getElem? (i := 758) (by decide +kernel), List.mem_of_getElem? (i := 759) (by decide +kernel)⟩
theorem lw_p22 : lw_okq (⟨"FoldedStripsModel", "how", "(I)I"⟩, 20) := ⟨⟨by decide +kernel, by decide +kernel⟩, List.mem_of_getElem? (i := 631) (by decide +kernel), List.mem_of_getElem? (i := 762) (by decide +kernel), List.mem_of_getElem? (i := 763) (by decide +kernel)⟩
theorem lw_p23 : lw_okq (⟨"FoldedStripsModel", "exchanges", "(II)V"⟩, 20) := ⟨⟨by decide +kernel, by decide +kernel⟩, List.mem_of_getElem? (i := 631) (by decide +kernel), List.mem_of_getElem? (i := 777) (by decide +kernel), List.mem_of_getElem? (i := 778) (by decide +kernel)⟩
theorem lw_p24 : lw_okq (⟨"FoldedStripsModel", "faultOf", "()I"⟩, 20) := ⟨⟨by decide +kernel, by decide +kernel⟩, List.mem_of_getElem? (i := 631) (by decide +kernel), List.mem_of_getElem? (i := 789) (by decide +kernel), List.mem_of_getElem? (i := 790) (by decide +kernel)⟩
theorem lw_p25 : lw_okq (⟨"FoldedStripsModel", "readsStroke", "()Z"⟩, 20) := ⟨⟨by decide +kernel, by decide +kernel⟩, List.mem_of_getElem? (i := 631) (by decide +kernel), List.mem_of_getElem? (i := 793) (by decide +kernel), List.mem_of_getElem? (i := 794) (by decide +kernel)⟩
theorem lw_p26 : lw_okq (⟨"FoldedStripsModel", "isSign", "(CC)Z"⟩, 20) := ⟨⟨by decide +kernel, by decide +kernel⟩, List.mem_of_getElem? (i := 631) (by decide +kernel), List.mem_of_getElem? (i := 797) (by decide +kernel), List.mem_of_getElem? (i := 798) (by decide +kernel)⟩
theorem lw_p27 : lw_okq (⟨"FoldedStripsModel", "canDown", "(I)Z"⟩, 20) := ⟨⟨by decide +kernel, by decide +kernel⟩, List.mem_of_getElem? (i := 631) (by decide +kernel), List.mem_of_getElem? (i := 801) (by decide +kernel), List.mem_of_getElem? (i := 802) (by decide +kernel)⟩
theorem lw_p28 : lw_okq (⟨"FoldedStripsModel", "isUnused", "(I)Z"⟩, 20) := ⟨⟨by decide +kernel, by decide +kernel⟩, List.mem_of_getElem? (i := 631) (by decide +kernel), List.mem_of_getElem? (i := 805) (by decide +kernel), List.mem_of_getElem? (i := 806) (by decide +kernel)⟩
theorem lw_p29 : lw_okq (⟨"FoldedStripsModel", "isAnyUnused", "(II)Z"⟩, 20) := ⟨⟨by decide +kernel, by decide +kernel⟩, List.mem_of_getElem? (i := 631) (by decide +kernel), List.mem_of_getElem? (i := 809) (by decide +kernel), List.mem_of_getElem? (i := 810) (by decide +kernel)⟩
theorem lw_p30 : lw_okq (⟨"FoldedStripsModel", "canAbove", "(I)Z"⟩, 20) := ⟨⟨by decide +kernel, by decide +kernel⟩, List.mem_of_getElem? (i := 631) (by decide +kernel), List.mem_of_getElem? (i := 813) (by decide +kernel), List.mem_of_getElem? (i := 814) (by decide +kernel)⟩
theorem lw_p31 : lw_okq (⟨"FoldedStripsModel", "canBelow", "(I)Z"⟩, 20) := ⟨⟨by decide +kernel, by decide +kernel⟩, List.mem_of_getElem? (i := 631) (by decide +kernel), List.mem_of_getElem? (i := 817) (by decide +kernel), List.mem_of_getElem? (i := 818) (by decide +kernel)⟩
def lw_privs_2 : List (MethodName × Nat) := [(⟨"FoldedStripsModel", "strokesOf", "(I)I"⟩, 20), (⟨"FoldedStripsModel", "rubsAll", "(I)V"⟩, 20), (⟨"FoldedStripsModel", "canSlide", "(II)Z"⟩, 20), (⟨"FoldedStripsModel", "lays", "(IIZZ)V"⟩, 20), (⟨"FoldedStripsModel", "loose", "()I"⟩, 20), (⟨"FoldedStripsModel", "ends", "(III)I"⟩, 20), (⟨"FoldedStripsModel", "how", "(I)I"⟩, 20), (⟨"FoldedStripsModel", "exchanges", "(II)V"⟩, 20), (⟨"FoldedStripsModel", "faultOf", "()I"⟩, 20), (⟨"FoldedStripsModel", "readsStroke", "()Z"⟩, 20), (⟨"FoldedStripsModel", "isSign", "(CC)Z"⟩, 20), (⟨"FoldedStripsModel", "canDown", "(I)Z"⟩, 20), (⟨"FoldedStripsModel", "isUnused", "(I)Z"⟩, 20), (⟨"FoldedStripsModel", "isAnyUnused", "(II)Z"⟩, 20), (⟨"FoldedStripsModel", "canAbove", "(I)Z"⟩, 20), (⟨"FoldedStripsModel", "canBelow", "(I)Z"⟩, 20)]
theorem lw_r2 : ∀ q ∈ lw_privs_2, lw_okq q := List.forall_mem_cons.mpr ⟨lw_p16, List.forall_mem_cons.mpr ⟨lw_p17, List.forall_mem_cons.mpr ⟨lw_p18, List.forall_mem_cons.mpr ⟨lw_p19, List.forall_mem_cons.mpr ⟨lw_p20, List.forall_mem_cons.mpr ⟨lw_p21, List.forall_mem_cons.mpr ⟨lw_p22, List.forall_mem_cons.mpr ⟨lw_p23, List.forall_mem_cons.mpr ⟨lw_p24, List.forall_mem_cons.mpr ⟨lw_p25, List.forall_mem_cons.mpr ⟨lw_p26, List.forall_mem_cons.mpr ⟨lw_p27, List.forall_mem_cons.mpr ⟨lw_p28, List.forall_mem_cons.mpr ⟨lw_p29, List.forall_mem_cons.mpr ⟨lw_p30, List.forall_mem_cons.mpr ⟨lw_p31, fun _ h => absurd h List.not_mem_nil⟩⟩⟩⟩⟩⟩⟩⟩⟩⟩⟩⟩⟩⟩⟩⟩
theorem lw_p32 : lw_okq (⟨"FoldedStripsModel", "accepts", "(CZ)Z"⟩, 20) := ⟨⟨by decide +kernel, by decide +kernel⟩, List.mem_of_getElem? (i := 631) (by decide +kernel), List.mem_of_getElem? (i := 821) (by decide +kernel), List.mem_of_getElem? (i := 822) (by decide +kernel)⟩
theorem lw_p33 : lw_okq (⟨"FoldedStripsModel", "isMore", "()Z"⟩, 20) := ⟨⟨by decide +kernel, by decide +kernel⟩, List.mem_of_getElem? (i := 631) (by decide +kernel), List.mem_of_getElem? (i := 825) (by decide +kernel), List.mem_of_getElem? (i := 826) (by decide +kernel)⟩
theorem lw_p34 : lw_okq (⟨"FoldedStripsModel", "lay", "()V"⟩, 20) := ⟨⟨by decide +kernel, by decide +kernel⟩, List.mem_of_getElem? (i := 631) (by decide +kernel), List.mem_of_getElem? (i := 833) (by decide +kernel), List.mem_of_getElem? (i := 834) (by decide +kernel)⟩
theorem lw_p35 : lw_okq (⟨"FoldedStripsModel", "marks", "(I)V"⟩, 20) := ⟨⟨by decide +kernel, by decide +kernel⟩, List.mem_of_getElem? (i := 631) (by decide +kernel), List.mem_of_getElem? (i := 837) (by decide +kernel), List.mem_of_getElem? (i := 838) (by decide +kernel)⟩
theorem lw_p36 : lw_okq (⟨"FoldedStripsModel", "other", "(I)I"⟩, 20) := ⟨⟨by decide +kernel, by decide +kernel⟩, List.mem_of_getElem? (i := 631) (by decide +kernel), List.mem_of_getElem? (i := 841) (by decide +kernel), List.mem_of_getElem? (i := 842) (by decide +kernel)⟩
theorem lw_p37 : lw_okq (⟨"FoldedStripsModel", "follows", "(II)I"⟩, 20) := ⟨⟨by decide +kernel, by decide +kernel⟩, List.mem_of_getElem? (i := 631) (by decide +kernel), List.mem_of_getElem? (i := 845) (by decide +kernel), List.mem_of_getElem? (i := 846) (by decide +kernel)⟩
theorem lw_p38 : lw_okq (⟨"FoldedStripsModel", "crossing", "(I)I"⟩, 20) := ⟨⟨by decide +kernel, by decide +kernel⟩, List.mem_of_getElem? (i := 631) (by decide +kernel), List.mem_of_getElem? (i := 849) (by decide +kernel), List.mem_of_getElem? (i := 850) (by decide +kernel)⟩
theorem lw_p39 : lw_okq (⟨"FoldedStripsModel", "columns", "(I)I"⟩, 20) := ⟨⟨by decide +kernel, by decide +kernel⟩, List.mem_of_getElem? (i := 631) (by decide +kernel), List.mem_of_getElem? (i := 863) (by decide +kernel), List.mem_of_getElem? (i := 864) (by decide +kernel)⟩
theorem lw_p40 : lw_okq (⟨"FoldedStripsModel", "pairs", "(I)I"⟩, 20) := ⟨⟨by decide +kernel, by decide +kernel⟩, List.mem_of_getElem? (i := 631) (by decide +kernel), List.mem_of_getElem? (i := 867) (by decide +kernel), List.mem_of_getElem? (i := 868) (by decide +kernel)⟩
theorem lw_p41 : lw_okq (⟨"FoldedStripsModel", "linesIn", "(I)I"⟩, 20) := ⟨⟨by decide +kernel, by decide +kernel⟩, List.mem_of_getElem? (i := 631) (by decide +kernel), List.mem_of_getElem? (i := 871) (by decide +kernel), List.mem_of_getElem? (i := 872) (by decide +kernel)⟩
theorem lw_p42 : lw_okq (⟨"FoldedStripsModel", "down", "(I)I"⟩, 20) := ⟨⟨by decide +kernel, by decide +kernel⟩, List.mem_of_getElem? (i := 631) (by decide +kernel), List.mem_of_getElem? (i := 875) (by decide +kernel), List.mem_of_getElem? (i := 876) (by decide +kernel)⟩
theorem lw_p43 : lw_okq (⟨"FoldedStripsModel", "faults", "(II)I"⟩, 20) := ⟨⟨by decide +kernel, by decide +kernel⟩, List.mem_of_getElem? (i := 631) (by decide +kernel), List.mem_of_getElem? (i := 883) (by decide +kernel), List.mem_of_getElem? (i := 884) (by decide +kernel)⟩
theorem lw_p44 : lw_okq (⟨"FoldedStripsModel", "ofHand", "(II)I"⟩, 20) := ⟨⟨by decide +kernel, by decide +kernel⟩, List.mem_of_getElem? (i := 631) (by decide +kernel), List.mem_of_getElem? (i := 891) (by decide +kernel), List.mem_of_getElem? (i := 892) (by decide +kernel)⟩
theorem lw_p45 : lw_okq (⟨"FoldedStripsModel", "handsOf", "(I)I"⟩, 20) := ⟨⟨by decide +kernel, by decide +kernel⟩, List.mem_of_getElem? (i := 631) (by decide +kernel), List.mem_of_getElem? (i := 902) (by decide +kernel), List.mem_of_getElem? (i := 903) (by decide +kernel)⟩
theorem lw_p46 : lw_okq (⟨"FoldedStripsModel", "ofPanels", "(I)I"⟩, 20) := ⟨⟨by decide +kernel, by decide +kernel⟩, List.mem_of_getElem? (i := 631) (by decide +kernel), List.mem_of_getElem? (i := 910) (by decide +kernel), List.mem_of_getElem? (i := 911) (by decide +kernel)⟩
theorem lw_p47 : lw_okq (⟨"FoldedStripsModel", "ofLines", "(I)I"⟩, 20) := ⟨⟨by decide +kernel, by decide +kernel⟩, List.mem_of_getElem? (i := 631) (by decide +kernel), List.mem_of_getElem? (i := 914) (by decide +kernel), List.mem_of_getElem? (i := 915) (by decide +kernel)⟩
def lw_privs_3 : List (MethodName × Nat) := [(⟨"FoldedStripsModel", "accepts", "(CZ)Z"⟩, 20), (⟨"FoldedStripsModel", "isMore", "()Z"⟩, 20), (⟨"FoldedStripsModel", "lay", "()V"⟩, 20), (⟨"FoldedStripsModel", "marks", "(I)V"⟩, 20), (⟨"FoldedStripsModel", "other", "(I)I"⟩, 20), (⟨"FoldedStripsModel", "follows", "(II)I"⟩, 20), (⟨"FoldedStripsModel", "crossing", "(I)I"⟩, 20), (⟨"FoldedStripsModel", "columns", "(I)I"⟩, 20), (⟨"FoldedStripsModel", "pairs", "(I)I"⟩, 20), (⟨"FoldedStripsModel", "linesIn", "(I)I"⟩, 20), (⟨"FoldedStripsModel", "down", "(I)I"⟩, 20), (⟨"FoldedStripsModel", "faults", "(II)I"⟩, 20), (⟨"FoldedStripsModel", "ofHand", "(II)I"⟩, 20), (⟨"FoldedStripsModel", "handsOf", "(I)I"⟩, 20), (⟨"FoldedStripsModel", "ofPanels", "(I)I"⟩, 20), (⟨"FoldedStripsModel", "ofLines", "(I)I"⟩, 20)]
theorem lw_r3 : ∀ q ∈ lw_privs_3, lw_okq q := List.forall_mem_cons.mpr ⟨lw_p32, List.forall_mem_cons.mpr ⟨lw_p33, List.forall_mem_cons.mpr ⟨lw_p34, List.forall_mem_cons.mpr ⟨lw_p35, List.forall_mem_cons.mpr ⟨lw_p36, List.forall_mem_cons.mpr ⟨lw_p37, List.forall_mem_cons.mpr ⟨lw_p38, List.forall_mem_cons.mpr ⟨lw_p39, List.forall_mem_cons.mpr ⟨lw_p40, List.forall_mem_cons.mpr ⟨lw_p41, List.forall_mem_cons.mpr ⟨lw_p42, List.forall_mem_cons.mpr ⟨lw_p43, List.forall_mem_cons.mpr ⟨lw_p44, List.forall_mem_cons.mpr ⟨lw_p45, List.forall_mem_cons.mpr ⟨lw_p46, List.forall_mem_cons.mpr ⟨lw_p47, fun _ h => absurd h List.not_mem_nil⟩⟩⟩⟩⟩⟩⟩⟩⟩⟩⟩⟩⟩⟩⟩⟩
theorem lw_p48 : lw_okq (⟨"FoldedStripsModel", "keepTrial", "()V"⟩, 20) := ⟨⟨by decide +kernel, by decide +kernel⟩, List.mem_of_getElem? (i := 631) (by decide +kernel), List.mem_of_getElem? (i := 922) (by decide +kernel), List.mem_of_getElem? (i := 923) (by decide +kernel)⟩
theorem lw_p49 : lw_okq (⟨"FoldedStripsModel", "putBack", "()V"⟩, 20) := ⟨⟨by decide +kernel, by decide +kernel⟩, List.mem_of_getElem? (i := 631) (by decide +kernel), List.mem_of_getElem? (i := 926) (by decide +kernel), List.mem_of_getElem? (i := 927) (by decide +kernel)⟩
def lw_privs_4 : List (MethodName × Nat) := [(⟨"FoldedStripsModel", "keepTrial", "()V"⟩, 20), (⟨"FoldedStripsModel", "putBack", "()V"⟩, 20)]
theorem lw_r4 : ∀ q ∈ lw_privs_4, lw_okq q := List.forall_mem_cons.mpr ⟨lw_p48, List.forall_mem_cons.mpr ⟨lw_p49, fun _ h => absurd h List.not_mem_nil⟩⟩
def lw_privs : List (MethodName × Nat) := lw_privs_1 ++ (lw_privs_2 ++ (lw_privs_3 ++ (lw_privs_4)))
def lw_tbl : List Cond := k2_sels lw_privs ++ tables_1
theorem lw_privs_ok : ∀ q ∈ lw_privs, lw_okq q := by
  show ∀ q ∈ lw_privs_1 ++ (lw_privs_2 ++ (lw_privs_3 ++ (lw_privs_4))), lw_okq q
  exact List.forall_mem_append.mpr ⟨lw_r1, List.forall_mem_append.mpr ⟨lw_r2, List.forall_mem_append.mpr ⟨lw_r3, lw_r4⟩⟩⟩
end
section
/-! A small machine over mathematical integers: what the code does, without heap, words, room. Values: an int, a long, a reference to a numbered cell (none: unset) -/
abbrev fx_V : Type := Int ⊕ (Int64 ⊕ Option Nat)
abbrev fx_M : Type := Nat → Nat → Int
/-- a cell's shape: an array of numbers (0 int, 1 boolean, 2 char) and its length; an object, its class' number, its fields (a reference, or a number); an array of references -/
abbrev fx_S : Type := (Nat × Nat) ⊕ ((Nat × List (Option Nat)) ⊕ List Nat)
/-- of a method: how many values it takes, its locals, its answer (0 none, 1 int, 2 boolean, 3 char), its receiver's class -/
abbrev fx_G : Type := Nat → Nat × Nat × Nat × Option Nat
abbrev fx_O : Type := Option (Nat × List fx_V × List fx_V × fx_M)
def fx_r (x : Int) : Prop := -2147483648 ≤ x ∧ x < 2147483648
def fx_rb (x : Int) : Bool := decide (-2147483648 ≤ x) && decide (x < 2147483648)
theorem fx_rb_iff {x : Int} : fx_rb x = true ↔ fx_r x := by simp [fx_rb, fx_r]
def fx_div (x y : Int) : Int := (Int32.ofInt x / Int32.ofInt y).toInt
def fx_rem (x y : Int) : Int := (Int32.ofInt x - Int32.ofInt x / Int32.ofInt y * Int32.ofInt y).toInt
def fx_and (x y : Int) : Int := (Int32.ofInt x &&& Int32.ofInt y).toInt
def fx_or (x y : Int) : Int := (Int32.ofInt x ||| Int32.ofInt y).toInt
def fx_xor (x y : Int) : Int := (Int32.ofInt x ^^^ Int32.ofInt y).toInt
def fx_shl (x y : Int) : Int := (Int32.ofInt x <<< (Int32.ofInt y &&& 31)).toInt
def fx_shr (x y : Int) : Int := (Int32.ofInt x >>> (Int32.ofInt y &&& 31)).toInt
def fx_ushr (x y : Int) : Int := (((Int32.ofInt x).toUInt32 >>> ((Int32.ofInt y).toUInt32 &&& Int32.toUInt32 31)).toInt32).toInt
def fx_i2c (x : Int) : Int := (((Int32.ofInt x).toUInt32 % 65536).toInt32).toInt
def fx_cmp (c : Jvm.ClassFile.Cond) (x y : Int) : Bool := match c with
  | .eq => decide (x = y)
  | .ne => decide (x ≠ y)
  | .lt => decide (x < y)
  | .ge => decide (y ≤ x)
  | .gt => decide (y < x)
  | .le => decide (x ≤ y)
def fx_set (M : fx_M) (k : Nat) (f : Nat → Int) : fx_M := fun q => if q = k then f else M q
def fx_up (f : Nat → Int) (k : Nat) (x : Int) : Nat → Int := fun j => if j = k then x else f j
def fx_cp (f g : Nat → Int) (sp dp n : Nat) : Nat → Int := fun k => if dp ≤ k ∧ k < dp + n then f (sp + (k - dp)) else g k
/-- a place in a row of n -/
def fx_ix (x : Int) (n : Nat) : Bool := decide (0 ≤ x) && decide (x < (n : Int)) && decide (x < 2147483648)
def fx_ct : fx_V → Nat
  | .inr (.inl _) => 2
  | _ => 1
def fx_cs : List fx_V → Nat
  | [] => 0
  | v :: t => fx_ct v + fx_cs t
/-- a local of one word may be written: no long stands just ahead -/
def fx_fr (ls : List fx_V) (k : Nat) : Bool := decide (k < ls.length) && (match k with
  | 0 => true
  | k' + 1 => match ls[k']? with
    | some (.inr (.inl _)) => false
    | _ => true)
def fx_lk : List (Int × Int) → Int → Int → Int
  | [], d, _ => d
  | (a, t) :: r, d, x => if x = a then t else fx_lk r d x
def fx_bin (f : Int → Int → Int) (i : Nat) (ls st : List fx_V) (M : fx_M) : fx_O := match st with
  | .inl y :: .inl x :: r => some (i + 1, ls, .inl (f x y) :: r, M)
  | _ => none
def fx_binN (f : Int → Int → Int) (i : Nat) (ls st : List fx_V) (M : fx_M) : fx_O := match st with
  | .inl y :: .inl x :: r => if Int32.ofInt y = 0 then none else some (i + 1, ls, .inl (f x y) :: r, M)
  | _ => none
def fx_binL (f : Int64 → Int64 → Int64) (i : Nat) (ls st : List fx_V) (M : fx_M) : fx_O := match st with
  | .inr (.inl y) :: .inr (.inl x) :: r => some (i + 1, ls, .inr (.inl (f x y)) :: r, M)
  | _ => none
def fx_binLI (f : Int64 → Int32 → Int64) (i : Nat) (ls st : List fx_V) (M : fx_M) : fx_O := match st with
  | .inl y :: .inr (.inl x) :: r => some (i + 1, ls, .inr (.inl (f x (Int32.ofInt y))) :: r, M)
  | _ => none
def fx_ld (ty : Nat) (SH : List fx_S) (i : Nat) (ls st : List fx_V) (M : fx_M) : fx_O := match st with
  | .inl x :: .inr (.inr (some k)) :: r => match SH[k]? with
    | some (.inl (t, n)) => if t = ty ∧ fx_ix x n = true then some (i + 1, ls, .inl (M k x.toNat) :: r, M) else none
    | _ => none
  | _ => none
def fx_ldx (SH : List fx_S) (Lx : Nat) (MX : Nat → Int) (i : Nat) (ls st : List fx_V) (M : fx_M) : fx_O := match st with
  | .inl x :: .inr (.inr (some k)) :: r => if k = SH.length then (if fx_ix x Lx = true then some (i + 1, ls, .inl (MX x.toNat) :: r, M) else none) else fx_ld 0 SH i ls st M
  | _ => none
/-- what an array of small numbers takes -/
def fx_tk (ty : Nat) (v : Int) : Bool := match ty with
  | 0 => true
  | 1 => decide (v = 0) || decide (v = 1)
  | _ => decide (0 ≤ v) && decide (v < 65536)
def fx_sd (ty : Nat) (SH : List fx_S) (i : Nat) (ls st : List fx_V) (M : fx_M) : fx_O := match st with
  | .inl v :: .inl x :: .inr (.inr (some k)) :: r => match SH[k]? with
    | some (.inl (t, n)) => if t = ty ∧ fx_ix x n = true ∧ fx_tk ty v = true then some (i + 1, ls, r, fx_set M k (fx_up (M k) x.toNat v)) else none
    | _ => none
  | _ => none
def fx_step (SH : List fx_S) (Lx : Nat) (MX : Nat → Int) (m : Instr) (i : Nat) (ls st : List fx_V) (M : fx_M) : fx_O := match m with
  | .sipush v => some (i + 1, ls, .inl v :: st, M)
  | .goto_w v => some (i + 1, ls, .inr (.inl (Int64.ofInt v)) :: st, M)
  | .iload k => match ls[k]? with
    | some (.inl x) => some (i + 1, ls, .inl x :: st, M)
    | _ => none
  | .lload k => match ls[k]? with
    | some (.inr (.inl x)) => some (i + 1, ls, .inr (.inl x) :: st, M)
    | _ => none
  | .aload k => match ls[k]? with
    | some (.inr (.inr (some a))) => some (i + 1, ls, .inr (.inr (some a)) :: st, M)
    | _ => none
  | .istore k => match st with
    | .inl x :: r => if fx_fr ls k = true then some (i + 1, ls.set k (.inl x), r, M) else none
    | _ => none
  | .astore k => match st with
    | .inr (.inr (some a)) :: r => if fx_fr ls k = true then some (i + 1, ls.set k (.inr (.inr (some a))), r, M) else none
    | _ => none
  | .lstore k => match st with
    | .inr (.inl x) :: r => if fx_fr ls k = true ∧ k + 1 < ls.length then some (i + 1, (ls.set k (.inr (.inl x))).set (k + 1) (.inr (.inr none)), r, M) else none
    | _ => none
  | .iinc k n => match ls[k]? with
    | some (.inl x) => if fx_fr ls k = true then some (i + 1, ls.set k (.inl (x + n)), st, M) else none
    | _ => none
  | .iadd => fx_bin (fun x y => x + y) i ls st M
  | .isub => fx_bin (fun x y => x - y) i ls st M
  | .imul => fx_bin (fun x y => x * y) i ls st M
  | .iand => fx_bin fx_and i ls st M
  | .ior => fx_bin fx_or i ls st M
  | .ixor => fx_bin fx_xor i ls st M
  | .ishl => fx_bin fx_shl i ls st M
  | .ishr => fx_bin fx_shr i ls st M
  | .iushr => fx_bin fx_ushr i ls st M
  | .idiv => fx_binN fx_div i ls st M
  | .irem => fx_binN fx_rem i ls st M
  | .land => fx_binL (fun x y => x &&& y) i ls st M
  | .lor => fx_binL (fun x y => x ||| y) i ls st M
  | .lshl => fx_binLI (fun x y => x <<< (y.toInt64 &&& 63)) i ls st M
  | .lushr => fx_binLI (fun x y => (x.toUInt64 >>> (y.toInt64.toUInt64 &&& Int64.toUInt64 63)).toInt64) i ls st M
  | .lcmp => match st with
    | .inr (.inl y) :: .inr (.inl x) :: r => some (i + 1, ls, .inl (lg_cmp x y).toInt :: r, M)
    | _ => none
  | .i2l => match st with
    | .inl x :: r => some (i + 1, ls, .inr (.inl (Int32.ofInt x).toInt64) :: r, M)
    | _ => none
  | .l2i => match st with
    | .inr (.inl x) :: r => some (i + 1, ls, .inl x.toInt32.toInt :: r, M)
    | _ => none
  | .i2c => match st with
    | .inl x :: r => some (i + 1, ls, .inl (fx_i2c x) :: r, M)
    | _ => none
  | .dup => match st with
    | v :: r => if fx_ct v = 1 then some (i + 1, ls, v :: v :: r, M) else none
    | _ => none
  | .dup2 => match st with
    | v :: w :: r => if fx_ct v = 1 ∧ fx_ct w = 1 then some (i + 1, ls, v :: w :: v :: w :: r, M) else none
    | _ => none
  | .ifCond c t => match st with
    | .inl x :: r => if fx_rb x = true then some (if fx_cmp c x 0 = true then t.toNat else i + 1, ls, r, M) else none
    | _ => none
  | .if_icmp c t => match st with
    | .inl y :: .inl x :: r => if fx_rb x = true ∧ fx_rb y = true then some (if fx_cmp c x y = true then t.toNat else i + 1, ls, r, M) else none
    | _ => none
  | .goto t => some (t.toNat, ls, st, M)
  | .tableswitch d lo hi ts => match st with
    | .inl x :: r => if fx_rb x = true then (if x < lo ∨ hi < x then some (d.toNat, ls, r, M) else match ts[(x - lo).toNat]? with
      | some t => some (t.toNat, ls, r, M)
      | none => none) else none
    | _ => none
  | .lookupswitch d ts => match st with
    | .inl x :: r => if fx_rb x = true then some ((fx_lk ts.toList d x).toNat, ls, r, M) else none
    | _ => none
  | .invokeinterface ci sl => match st with
    | .inr (.inr (some k)) :: r => match SH[k]? with
      | some (.inr (.inl (cj, fs))) => if cj = ci then (match fs[sl]? with
        | some (some a) => some (i + 1, ls, .inr (.inr (some a)) :: r, M)
        | some none => some (i + 1, ls, .inl (M k sl) :: r, M)
        | none => none) else none
      | _ => none
    | _ => none
  | .multianewarray ci sl => match st with
    | .inl v :: .inr (.inr (some k)) :: r => match SH[k]? with
      | some (.inr (.inl (cj, fs))) => if cj = ci then (match fs[sl]? with
        | some none => some (i + 1, ls, r, fx_set M k (fx_up (M k) sl v))
        | _ => none) else none
      | _ => none
    | _ => none
  | .iaload => fx_ldx SH Lx MX i ls st M
  | .baload => fx_ld 1 SH i ls st M
  | .caload => fx_ld 2 SH i ls st M
  | .iastore => fx_sd 0 SH i ls st M
  | .bastore => fx_sd 1 SH i ls st M
  | .castore => fx_sd 2 SH i ls st M
  | .aaload => match st with
    | .inl x :: .inr (.inr (some k)) :: r => match SH[k]? with
      | some (.inr (.inr l)) => if fx_ix x l.length = true then (match l[x.toNat]? with
        | some a => some (i + 1, ls, .inr (.inr (some a)) :: r, M)
        | none => none) else none
      | _ => none
    | _ => none
  | .arraylength => match st with
    | .inr (.inr (some k)) :: r => if k = SH.length then (if 0 < Lx then some (i + 1, ls, .inl (Lx : Int) :: r, M) else none) else match SH[k]? with
      | some (.inl (0, n)) => some (i + 1, ls, .inl (n : Int) :: r, M)
      | _ => none
    | _ => none
  | .nop => match st with
    | .inl n :: .inl dp :: .inr (.inr (some k1)) :: .inl sp :: .inr (.inr (some k0)) :: r => match SH[k0]?, SH[k1]? with
      | some (.inl (0, n0)), some (.inl (0, n1)) => if fx_rb n = true ∧ fx_rb dp = true ∧ fx_rb sp = true ∧ 0 ≤ n ∧ 0 ≤ dp ∧ 0 ≤ sp ∧ sp + n ≤ (n0 : Int) ∧ dp + n ≤ (n1 : Int) ∧ fx_cs r ≤ 8 then
          some (i + 1, ls, r, fx_set M k1 (fx_cp (M k0) (M k1) sp.toNat dp.toNat n.toNat)) else none
      | _, _ => none
    | _ => none
  | .swap => match st with
    | .inl y :: .inl x :: r => if fx_rb x = true ∧ fx_rb y = true ∧ fx_cs r ≤ 8 then some (i + 1, ls, .inl (if x < y then y else x) :: r, M) else none
    | _ => none
  | .pop2 => match st with
    | .inl y :: .inl x :: r => if fx_rb x = true ∧ fx_rb y = true ∧ fx_cs r ≤ 8 then some (i + 1, ls, .inl (if y < x then y else x) :: r, M) else none
    | _ => none
  | _ => none
def fx_ret (t : Nat) (st : List fx_V) (M : fx_M) : Option (Option fx_V × fx_M) := match st with
  | [.inl x] => if t = 1 ∨ (t = 2 ∧ (x = 0 ∨ x = 1)) ∨ (t = 3 ∧ 0 ≤ x ∧ x < 65536) then some (some (.inl x), M) else none
  | _ => none
def fx_f1 (v : fx_V) : List fx_V := match v with
  | .inr (.inl _) => [v, .inr (.inr none)]
  | _ => [v]
def fx_fl (vs : List fx_V) : List fx_V := vs.flatMap fx_f1
def fx_ini (n : Nat) (vs : List fx_V) : List fx_V := fx_fl vs ++ List.replicate (n - (fx_fl vs).length) (.inr (.inr none))
/-- the receiver is an object of the class -/
def fx_rcv (SH : List fx_S) (o : Option Nat) (vs : List fx_V) : Bool := match o with
  | none => true
  | some ci => match vs with
    | .inr (.inr (some k)) :: _ => match SH[k]? with
      | some (.inr (.inl (cj, _))) => decide (cj = ci)
      | _ => false
    | _ => false
def fx_ex (C : Nat → List Instr) (G : fx_G) (SH : List fx_S) (Lx : Nat) (MX : Nat → Int) : Nat → Nat → Nat → List fx_V → List fx_V → fx_M → Option (Option fx_V × fx_M)
  | 0, _, _, _, _, _ => none
  | n + 1, j, i, ls, st, M => match (C j)[i]? with
    | some .ireturn => fx_ret (G j).2.2.1 st M
    | some .return_ => match st with
      | [] => if (G j).2.2.1 = 0 then some (none, M) else none
      | _ => none
    | some (.invokestatic k) =>
      if (G k).1 ≤ st.length ∧ fx_cs (st.drop (G k).1) ≤ 8 ∧ (fx_fl (st.take (G k).1).reverse).length ≤ (G k).2.1 then
        (match fx_ex C G SH Lx MX n k 0 (fx_ini (G k).2.1 (st.take (G k).1).reverse) [] M with
          | some (r, M') => fx_ex C G SH Lx MX n j (i + 1) ls (r.toList ++ st.drop (G k).1) M'
          | none => none) else none
    | some (.invokevirtual k) =>
      if (G k).1 ≤ st.length ∧ fx_cs (st.drop (G k).1) ≤ 8 ∧ (fx_fl (st.take (G k).1).reverse).length ≤ (G k).2.1 ∧ fx_rcv SH (G k).2.2.2 (st.take (G k).1).reverse = true then
        (match fx_ex C G SH Lx MX n k 0 (fx_ini (G k).2.1 (st.take (G k).1).reverse) [] M with
          | some (r, M') => fx_ex C G SH Lx MX n j (i + 1) ls (r.toList ++ st.drop (G k).1) M'
          | none => none) else none
    | some m => match fx_step SH Lx MX m i ls st M with
      | some (i', ls', st', M') => fx_ex C G SH Lx MX n j i' ls' st' M'
      | none => none
    | none => none
/-! values, locals, cells of the real machine -/
def fx_g (ad : Nat → Nat) : fx_V → Value
  | .inl x => .int (Int32.ofInt x)
  | .inr (.inl x) => .long x
  | .inr (.inr (some k)) => .ref (ad k)
  | .inr (.inr none) => .null
def fx_gl (ad : Nat → Nat) : fx_V → Option Value
  | .inl x => some (.int (Int32.ofInt x))
  | .inr (.inl x) => some (.long x)
  | .inr (.inr (some k)) => some (.ref (ad k))
  | .inr (.inr none) => none
theorem fx_gl_some {ad : Nat → Nat} {v : fx_V} {w : Value} (h : fx_gl ad v = some w) : w = fx_g ad v := by
  rcases v with x | x | (_ | k) <;> simp [fx_gl] at h <;> simp [fx_g, h]
theorem fx_ct_g {ad : Nat → Nat} (v : fx_V) : (fx_g ad v).category = fx_ct v := by
  rcases v with x | x | (_ | k) <;> rfl
theorem fx_cs_g {ad : Nat → Nat} (st : List fx_V) : ((st.map (fx_g ad)).map fun v => v.category).sum = fx_cs st := by
  induction st with
  | nil => rfl
  | cons v t ih => simp only [List.map_cons, List.sum_cons, fx_ct_g, fx_cs, ih]
def fx_prs (ad : Nat → Nat) (ls : List fx_V) : List (Nat × Value) := (List.range ls.length).filterMap (fun k => ((ls[k]?).bind (fx_gl ad)).map (fun w => (k, w)))
theorem fx_prs_mem {ad : Nat → Nat} {ls : List fx_V} {q : Nat × Value} : q ∈ fx_prs ad ls ↔ ∃ v, ls[q.1]? = some v ∧ fx_gl ad v = some q.2 := by
  obtain ⟨i, w⟩ := q
  unfold fx_prs
  rw [List.mem_filterMap]
  constructor
  · rintro ⟨k, hk, h⟩
    cases hv : ls[k]? with
    | none => rw [hv] at h; simp at h
    | some v =>
      rw [hv] at h
      cases hg : fx_gl ad v with
      | none => simp [hg] at h
      | some w' =>
        simp [hg] at h
        obtain ⟨rfl, rfl⟩ := h
        exact ⟨v, hv, hg⟩
  · rintro ⟨v, hv, hg⟩
    refine ⟨i, List.mem_range.mpr (List.getElem?_eq_some_iff.mp hv).1, ?_⟩
    show ((ls[i]?).bind (fx_gl ad)).map _ = _
    have hv' : ls[i]? = some v := hv
    have hg' : fx_gl ad v = some w := hg
    rw [hv']
    simp [hg']
theorem fx_lh_sub {L : Array Slot} {n : Nat} {l l' : List (Nat × Value)} (h : lv_has L n l) (hs : ∀ q ∈ l', q ∈ l) : lv_has L n l' := ⟨h.1, h.2.1, fun q hq => h.2.2 q (hs q hq)⟩
theorem fx_lh_get {ad : Nat → Nat} {L : Array Slot} {n k : Nat} {ls : List fx_V} {v : fx_V} {w : Value} (h : lv_has L n (fx_prs ad ls)) (hv : ls[k]? = some v) (hg : fx_gl ad v = some w) : L[k]? = some (.val w) := h.2.2 (k, w) (fx_prs_mem.mpr ⟨v, hv, hg⟩)
theorem fx_lh_set {ad : Nat → Nat} {L : Array Slot} {n k : Nat} {ls : List fx_V} {v : fx_V} {w : Value} (hg : fx_gl ad v = some w) (hf : fx_fr ls k = true)
    (h : lv_has L n ((k, w) :: (fx_prs ad ls).filter (fun q => !(q.1 == k) && !(q.1 + 1 == k && q.2.category == 2)))) : lv_has L n (fx_prs ad (ls.set k v)) := by
  refine fx_lh_sub h fun q hq => ?_
  obtain ⟨u, hu, hgu⟩ := fx_prs_mem.mp hq
  simp only [fx_fr, Bool.and_eq_true, decide_eq_true_eq] at hf
  by_cases hk : q.1 = k
  · rw [hk, List.getElem?_set_self hf.1] at hu
    cases hu
    rw [hg] at hgu
    cases hgu
    rw [← hk]
    exact List.mem_cons_self
  · rw [List.getElem?_set_ne (Ne.symm hk)] at hu
    refine List.mem_cons_of_mem _ (List.mem_filter.mpr ⟨fx_prs_mem.mpr ⟨u, hu, hgu⟩, ?_⟩)
    simp only [Bool.and_eq_true, Bool.not_eq_true', beq_eq_false_iff_ne, ne_eq, Bool.and_eq_false_iff]
    refine ⟨hk, ?_⟩
    by_cases h1 : q.1 + 1 = k
    · right
      intro hc
      rw [fx_gl_some hgu, fx_ct_g] at hc
      obtain ⟨-, hf2⟩ := hf
      subst h1
      simp only [hu] at hf2
      rcases u with x | x | x <;> simp [fx_ct] at hc hf2
    · exact Or.inl h1
theorem fx_lh_set2 {ad : Nat → Nat} {L : Array Slot} {n k : Nat} {ls : List fx_V} {x : Int64} (hf : fx_fr ls k = true) (hk1 : k + 1 < ls.length)
    (h : lv_has L n ((k, Value.long x) :: (fx_prs ad ls).filter (fun q => !(q.1 == k) && (!(q.1 == k + 1) && !(q.1 + 1 == k && q.2.category == 2))))) : lv_has L n (fx_prs ad ((ls.set k (.inr (.inl x))).set (k + 1) (.inr (.inr none)))) := by
  refine fx_lh_sub h fun q hq => ?_
  obtain ⟨u, hu, hgu⟩ := fx_prs_mem.mp hq
  simp only [fx_fr, Bool.and_eq_true, decide_eq_true_eq] at hf
  by_cases hk2 : q.1 = k + 1
  · rw [hk2, List.getElem?_set_self (by simpa using hk1)] at hu
    cases hu
    simp [fx_gl] at hgu
  · rw [List.getElem?_set_ne (Ne.symm hk2)] at hu
    by_cases hk : q.1 = k
    · rw [hk, List.getElem?_set_self hf.1] at hu
      cases hu
      simp [fx_gl] at hgu
      obtain ⟨i, w⟩ := q
      simp only at hk hgu
      subst hk hgu
      exact List.mem_cons_self
    · rw [List.getElem?_set_ne (Ne.symm hk)] at hu
      refine List.mem_cons_of_mem _ (List.mem_filter.mpr ⟨fx_prs_mem.mpr ⟨u, hu, hgu⟩, ?_⟩)
      simp only [Bool.and_eq_true, Bool.not_eq_true', beq_eq_false_iff_ne, ne_eq, Bool.and_eq_false_iff]
      refine ⟨hk, hk2, ?_⟩
      by_cases h1 : q.1 + 1 = k
      · right
        intro hc
        rw [fx_gl_some hgu, fx_ct_g] at hc
        obtain ⟨-, hf2⟩ := hf
        subst h1
        simp only [hu] at hf2
        rcases u with x | x | x <;> simp [fx_ct] at hc hf2
      · exact Or.inl h1
def fx_ce (ad : Nat → Nat) (cA : Nat → ClassId) (M : fx_M) (k : Nat) : fx_S → va_E
  | .inl (t, n) => .inl (cA t, (n, .inl (fun j => Int32.ofInt (M k j))))
  | .inr (.inl (ci, fs)) => .inr (ci, fs.zipIdx.map (fun q => match q.1 with
    | some r => .ref (ad r)
    | none => .int (Int32.ofInt (M k q.2))))
  | .inr (.inr l) => .inl (cA 9, (l.length, .inr (.inr (.inr (.inr (fun j => (l[j]?).map ad))))))
def fx_wl (ad : Nat → Nat) (cA : Nat → ClassId) (SH : List fx_S) (M : fx_M) : va_W := SH.zipIdx.map (fun q => (ad q.2, fx_ce ad cA M q.2 q.1))
theorem fx_wl_at {ad : Nat → Nat} {cA : Nat → ClassId} {SH : List fx_S} {M : fx_M} (k : Nat) : (fx_wl ad cA SH M)[k]? = (SH[k]?).map (fun e => (ad k, fx_ce ad cA M k e)) := by
  unfold fx_wl
  rw [List.getElem?_map, List.getElem?_zipIdx]
  cases SH[k]? <;> simp
theorem fx_wl_get {ad : Nat → Nat} {cA : Nat → ClassId} {SH : List fx_S} {M : fx_M} {k : Nat} {e : fx_S} (h : SH[k]? = some e) : (fx_wl ad cA SH M)[k]? = some (ad k, fx_ce ad cA M k e) := by rw [fx_wl_at, h]; rfl
theorem fx_ce_ne {ad : Nat → Nat} {cA : Nat → ClassId} {M : fx_M} {k q : Nat} {f : Nat → Int} (h : q ≠ k) (e : fx_S) : fx_ce ad cA (fx_set M k f) q e = fx_ce ad cA M q e := by
  rcases e with ⟨t, n⟩ | ⟨ci, fs⟩ | l <;> simp [fx_ce, fx_set, h]
theorem fx_wl_set {ad : Nat → Nat} {cA : Nat → ClassId} {SH : List fx_S} {M : fx_M} {k : Nat} {e : fx_S} {f : Nat → Int} {x : va_E} (h : SH[k]? = some e) (hx : x = fx_ce ad cA (fx_set M k f) k e) : (fx_wl ad cA SH M).set k (ad k, x) = fx_wl ad cA SH (fx_set M k f) := by
  refine List.ext_getElem? fun q => ?_
  by_cases hq : q = k
  · subst hq
    have hl : q < (fx_wl ad cA SH M).length := (List.getElem?_eq_some_iff.mp (fx_wl_get (ad := ad) (cA := cA) (M := M) h)).1
    rw [List.getElem?_set_self hl, fx_wl_get h, hx]
  · rw [List.getElem?_set_ne (Ne.symm hq), fx_wl_at, fx_wl_at]
    cases SH[q]? with
    | none => rfl
    | some e' => simp [fx_ce_ne hq]
theorem fx_wl_len {ad : Nat → Nat} {cA : Nat → ClassId} {SH : List fx_S} {M : fx_M} : (fx_wl ad cA SH M).length = SH.length := by simp [fx_wl]
def fx_A (ad : Nat → Nat) (N : Nat) : Nat → Prop := fun q => ∃ k, k < N ∧ q = ad k
theorem fx_D_any {A : Nat → Prop} {ad : Nat → Nat} {cA : Nat → ClassId} {SH : List fx_S} {M M' : fx_M} (h : va_D A (fx_wl ad cA SH M)) : va_D A (fx_wl ad cA SH M') := by
  have key : ∀ (k : Nat) (q : Nat × va_E), (fx_wl ad cA SH M')[k]? = some q → ∃ q', (fx_wl ad cA SH M)[k]? = some q' ∧ q'.1 = q.1 := by
    intro k q hk
    rw [fx_wl_at] at hk ⊢
    cases hs : SH[k]? with
    | none => rw [hs] at hk; cases hk
    | some e =>
      rw [hs] at hk
      cases hk
      exact ⟨_, rfl, rfl⟩
  refine ⟨fun i j p q hi hj hpq => ?_, fun k q hk => ?_⟩
  · obtain ⟨p', h1, h2⟩ := key i p hi
    obtain ⟨q', h3, h4⟩ := key j q hj
    exact h.1 i j p' q' h1 h3 (h2.trans (hpq.trans h4.symm))
  · obtain ⟨q', h1, h2⟩ := key k q hk
    rw [← h2]
    exact h.2 k q' h1
theorem fx_A_of {A : Nat → Prop} {ad : Nat → Nat} {cA : Nat → ClassId} {SH : List fx_S} {M : fx_M} (h : va_D A (fx_wl ad cA SH M)) {q : Nat} (hq : fx_A ad SH.length q) : A q := by
  obtain ⟨k, hk, rfl⟩ := hq
  exact h.2 k (ad k, fx_ce ad cA M k SH[k]) (fx_wl_get (List.getElem?_eq_getElem hk))
theorem fx_D_self {A : Nat → Prop} {ad : Nat → Nat} {cA : Nat → ClassId} {SH : List fx_S} {M : fx_M} (h : va_D A (fx_wl ad cA SH M)) : va_D (fx_A ad SH.length) (fx_wl ad cA SH M) := by
  refine ⟨h.1, fun k q hk => ?_⟩
  have hl := (List.getElem?_eq_some_iff.mp hk).1
  rw [fx_wl_len] at hl
  rw [fx_wl_get (List.getElem?_eq_getElem hl)] at hk
  cases hk
  exact ⟨k, hl, rfl⟩
end
section
/-! What an instruction of the small machine stands for: m in place of o, which lies at pc, len bytes long. CT, CL: constants of the class' pool (index, value), ints and longs; FT, PT: its field links (index, class' number, slot), those that are read, those that are written, LT: its method links (index, method's number); rf, rl: frames and locals of the method's room; RO: of the callees -/
def fx_tg (pcs : List Nat) (pc : Nat) (off t : Int) : Bool := decide ((pc : Int) + off = ((pcs.getD t.toNat 0 : Nat) : Int))
def fx_tgs (pcs : List Nat) (pc : Nat) : List Int → List Int → Bool
  | [], [] => true
  | off :: r, t :: r' => fx_tg pcs pc off t && fx_tgs pcs pc r r'
  | _, _ => false
def fx_tgp (pcs : List Nat) (pc : Nat) : List (Int × Int) → List (Int × Int) → Bool
  | [], [] => true
  | (a, off) :: r, (b, t) :: r' => decide (a = b) && fx_tg pcs pc off t && fx_tgp pcs pc r r'
  | _, _ => false
def fx_nrm (CT CL : List (Nat × Int)) (FT PT : List (Nat × Nat × Nat)) (LT : List (Nat × Nat)) (pcs : List Nat) (G : fx_G) (RO : Nat → Nat × Nat) (rf rl pc len : Nat) (m o : Instr) : Bool := match m with
  | .sipush v => match o with
    | .iconst n => decide (len = 1 ∧ Int32.ofInt n = Int32.ofInt v)
    | .bipush n => decide (len = 2 ∧ (Int8.ofInt n).toInt32 = Int32.ofInt v)
    | .sipush n => decide (len = 3 ∧ (Int16.ofInt n).toInt32 = Int32.ofInt v)
    | .ldc k => decide (len = 2 ∧ (k, v) ∈ CT)
    | .ldc_w k => decide (len = 3 ∧ (k, v) ∈ CT)
    | _ => false
  | .goto_w v => match o with
    | .lconst n => decide (len = 1 ∧ Int64.ofNat (n : Nat) = Int64.ofInt v)
    | .ldc2_w k => decide (len = 3 ∧ (k, v) ∈ CL)
    | _ => false
  | .iload k => match o with
    | .iload_n n => decide (len = 1 ∧ (n : Nat) = k)
    | .iload n => decide (len = 2 ∧ n = k)
    | _ => false
  | .lload k => match o with
    | .lload_n n => decide (len = 1 ∧ (n : Nat) = k)
    | .lload n => decide (len = 2 ∧ n = k)
    | _ => false
  | .aload k => match o with
    | .aload_n n => decide (len = 1 ∧ (n : Nat) = k)
    | .aload n => decide (len = 2 ∧ n = k)
    | _ => false
  | .istore k => match o with
    | .istore_n n => decide (len = 1 ∧ (n : Nat) = k)
    | .istore n => decide (len = 2 ∧ n = k)
    | _ => false
  | .lstore k => match o with
    | .lstore_n n => decide (len = 1 ∧ (n : Nat) = k)
    | .lstore n => decide (len = 2 ∧ n = k)
    | _ => false
  | .astore k => match o with
    | .astore_n n => decide (len = 1 ∧ (n : Nat) = k)
    | .astore n => decide (len = 2 ∧ n = k)
    | _ => false
  | .ifCond c t => match o with
    | .ifCond c' off => decide (len = 3 ∧ c' = c) && fx_tg pcs pc off t
    | _ => false
  | .if_icmp c t => match o with
    | .if_icmp c' off => decide (len = 3 ∧ c' = c) && fx_tg pcs pc off t
    | _ => false
  | .goto t => match o with
    | .goto off => decide (len = 3) && fx_tg pcs pc off t
    | _ => false
  | .tableswitch d lo hi ts => match o with
    | .tableswitch d' lo' hi' offs => decide (lo' = lo ∧ hi' = hi) && fx_tg pcs pc d' d && fx_tgs pcs pc offs.toList ts.toList
    | _ => false
  | .lookupswitch d ts => match o with
    | .lookupswitch d' ps => (ps.toList.zip (ps.toList.drop 1)).all (fun (a, next) => a.1 < next.1) && fx_tg pcs pc d' d && fx_tgp pcs pc ps.toList ts.toList
    | _ => false
  | .invokeinterface ci sl => match o with
    | .getfield k => decide (len = 3 ∧ (k, ci, sl) ∈ FT)
    | _ => false
  | .multianewarray ci sl => match o with
    | .putfield k => decide (len = 3 ∧ (k, ci, sl) ∈ PT)
    | _ => false
  | .invokestatic k => match o with
    | .invokestatic x => decide (len = 3 ∧ k < 1000000 ∧ (x, k) ∈ LT ∧ (G k).2.2.2 = none ∧ (RO k).1 + 1 ≤ rf ∧ 8 + ((G k).2.1 + 11) + (RO k).2 ≤ rl)
    | _ => false
  | .invokevirtual k => match o with
    | .invokevirtual x => decide (len = 3 ∧ k < 1000000 ∧ (x, k) ∈ LT ∧ ((G k).2.2.2).isSome = true ∧ 1 ≤ (G k).1 ∧ (RO k).1 + 1 ≤ rf ∧ 8 + ((G k).2.1 + 11) + (RO k).2 ≤ rl)
    | _ => false
  | .nop => match o with
    | .invokestatic x => decide (len = 3 ∧ (x, 1000000) ∈ LT ∧ 1 ≤ rf ∧ 8 + (nativeFrameWords "java/lang/System" "arraycopy" 5 + 11) ≤ rl)
    | _ => false
  | .swap => match o with
    | .invokestatic x => decide (len = 3 ∧ (x, 1000001) ∈ LT ∧ 1 ≤ rf ∧ 21 ≤ rl)
    | _ => false
  | .pop2 => match o with
    | .invokestatic x => decide (len = 3 ∧ (x, 1000002) ∈ LT ∧ 1 ≤ rf ∧ 21 ≤ rl)
    | _ => false
  | .iinc _ _ => decide (len = 3 ∧ o = m)
  | .iadd => decide (len = 1 ∧ o = m)
  | .isub => decide (len = 1 ∧ o = m)
  | .imul => decide (len = 1 ∧ o = m)
  | .iand => decide (len = 1 ∧ o = m)
  | .ior => decide (len = 1 ∧ o = m)
  | .ixor => decide (len = 1 ∧ o = m)
  | .ishl => decide (len = 1 ∧ o = m)
  | .ishr => decide (len = 1 ∧ o = m)
  | .iushr => decide (len = 1 ∧ o = m)
  | .idiv => decide (len = 1 ∧ o = m)
  | .irem => decide (len = 1 ∧ o = m)
  | .land => decide (len = 1 ∧ o = m)
  | .lor => decide (len = 1 ∧ o = m)
  | .lshl => decide (len = 1 ∧ o = m)
  | .lushr => decide (len = 1 ∧ o = m)
  | .lcmp => decide (len = 1 ∧ o = m)
  | .i2l => decide (len = 1 ∧ o = m)
  | .l2i => decide (len = 1 ∧ o = m)
  | .i2c => decide (len = 1 ∧ o = m)
  | .dup => decide (len = 1 ∧ o = m)
  | .dup2 => decide (len = 1 ∧ o = m)
  | .iaload => decide (len = 1 ∧ o = m)
  | .baload => decide (len = 1 ∧ o = m)
  | .caload => decide (len = 1 ∧ o = m)
  | .iastore => decide (len = 1 ∧ o = m)
  | .bastore => decide (len = 1 ∧ o = m)
  | .castore => decide (len = 1 ∧ o = m)
  | .aaload => decide (len = 1 ∧ o = m)
  | .arraylength => decide (len = 1 ∧ o = m)
  | .ireturn => decide (len = 1 ∧ o = m)
  | .return_ => decide (len = 1 ∧ o = m)
  | _ => false
/-! numbers -/
theorem fx_lt {x y : Int} (hx : fx_r x) (hy : fx_r y) : Int32.ofInt x < Int32.ofInt y ↔ x < y := by
  rw [Int32.lt_iff_toInt_lt, Int32.toInt_ofInt_of_le hx.1 hx.2, Int32.toInt_ofInt_of_le hy.1 hy.2]
theorem fx_le {x y : Int} (hx : fx_r x) (hy : fx_r y) : Int32.ofInt x ≤ Int32.ofInt y ↔ x ≤ y := by
  rw [Int32.le_iff_toInt_le, Int32.toInt_ofInt_of_le hx.1 hx.2, Int32.toInt_ofInt_of_le hy.1 hy.2]
theorem fx_eq {x y : Int} (hx : fx_r x) (hy : fx_r y) : Int32.ofInt x = Int32.ofInt y ↔ x = y := by
  rw [← Int32.toInt_inj, Int32.toInt_ofInt_of_le hx.1 hx.2, Int32.toInt_ofInt_of_le hy.1 hy.2]
theorem fx_r0 : fx_r 0 := by unfold fx_r; omega
theorem fx_ix_iff {x : Int} {n : Nat} : fx_ix x n = true ↔ 0 ≤ x ∧ x < (n : Int) ∧ x < 2147483648 := by
  simp [fx_ix, and_assoc]
theorem fx_ix_cl {x : Int} {n : Nat} (h : fx_ix x n = true) : (Int32.ofInt x).toNatClampNeg = x.toNat := by
  obtain ⟨h1, h2, h3⟩ := fx_ix_iff.mp h
  exact Int32.toNatClampNeg_ofInt_of_le (by omega) (by omega)
theorem fx_ix_in {x : Int} {n : Nat} (h : fx_ix x n = true) : vp_in (Int32.ofInt x) n := by
  obtain ⟨h1, h2, h3⟩ := fx_ix_iff.mp h
  rw [vp_in_iff, Int32.toInt_ofInt_of_le (by omega) (by omega)]
  exact ⟨h1, h2⟩

/-! the tables' words that the instructions of a class rest on -/
def fx_Tab (own : String) (TG : List Jvm.Cond) (cl : List vw_C) (CT CL : List (Nat × Int)) (FT PT : List (Nat × Nat × Nat)) (LT : List (Nat × Nat)) : Prop :=
  (∀ q ∈ CT, Jvm.Cond.constant own q.1 (Int32.ofInt q.2) ∈ TG) ∧ (∀ q ∈ CL, Jvm.Cond.constantLong own q.1 (Int64.ofInt q.2) ∈ TG) ∧
  (∀ q ∈ FT, ∃ C T N, cl[q.2.1]? = some (C, T, N) ∧ q.2.2 < N ∧ Jvm.Cond.fieldLink own q.1 (T q.2.2).1 (T q.2.2).2.1 (T q.2.2).2.2.1 ∈ TG) ∧
  (∀ q ∈ PT, ∃ C T N, cl[q.2.1]? = some (C, T, N) ∧ q.2.2 < N ∧ Jvm.Cond.fieldLink own q.1 (T q.2.2).1 (T q.2.2).2.1 (T q.2.2).2.2.1 ∈ TG ∧ (T q.2.2).2.2.2 = false ∧ parseFieldDescriptor (T q.2.2).2.2.1 = some .int) ∧
  (∀ q ∈ LT, q.2 = 1000000 → Jvm.Cond.methodLink own q.1 arraycopyName ∈ TG ∧ Jvm.Cond.native arraycopyName ∈ TG ∧ Jvm.Cond.static arraycopyName ∈ TG ∧ Jvm.Cond.initialized "java/lang/System" ∈ TG) ∧
  (∀ q ∈ LT, q.2 = 1000001 → Jvm.Cond.methodLink own q.1 Lib.Math.max.name ∈ TG ∧ Jvm.Cond.static Lib.Math.max.name ∈ TG ∧ Jvm.Cond.initialized "java/lang/Math" ∈ TG ∧ Jvm.Cond.code Lib.Math.max.name Lib.Math.max.code 2 (some .int) ∈ TG) ∧
  (∀ q ∈ LT, q.2 = 1000002 → Jvm.Cond.methodLink own q.1 Lib.Math.min.name ∈ TG ∧ Jvm.Cond.static Lib.Math.min.name ∈ TG ∧ Jvm.Cond.initialized "java/lang/Math" ∈ TG ∧ Jvm.Cond.code Lib.Math.min.name Lib.Math.min.code 2 (some .int) ∈ TG)
def fx_Cl (TG : List Jvm.Cond) (cl : List vw_C) : Prop := ∀ (ci : Nat) (C : String) (T : u_T) (N : Nat), cl[ci]? = some (C, T, N) →
  (∀ w ∈ u_ws C T N, w ∈ TG) ∧ (∃ ty : Nat → FieldType, ∀ k, k < N → parseFieldDescriptor (T k).2.2.1 = some (ty k)) ∧ (∀ a, a < N → ∀ b, b < N → a ≠ b → (T a).2.1 ≠ (T b).2.1)
def fx_Ty (tys : List (ClassId × FieldType)) (cA : Nat → ClassId) (OC : String) : Prop := tys[0]? = some (cA 0, .int) ∧ tys[1]? = some (cA 1, .boolean) ∧ tys[2]? = some (cA 2, .char) ∧ tys[3]? = some (cA 9, .object OC)
def fx_Wd (D : va_G) (cl : List vw_C) (ad : Nat → Nat) (cA : Nat → ClassId) (SH : List fx_S) (H0 : Heap) (A : Nat → Prop) (M : fx_M) (H : Heap) (locs : List Loc) : Prop :=
  va_P D cl (fx_wl ad cA SH M) H ∧ va_D A (fx_wl ad cA SH M) ∧ va_S A H0 H locs
def fx_X (ad : Nat → Nat) (SH : List fx_S) (Lx : Nat) (MX : Nat → Int) (A : Nat → Prop) (s : State) : Prop :=
  0 < Lx → Lx < 2147483648 ∧ va_X (ad SH.length) Lx (fun j => Int32.ofInt (MX j)) s s.heap ∧ ad SH.length < s.heap.size ∧ ¬ A (ad SH.length)
/-! what a step says of its start -/
theorem fx_bin_some {f : Int → Int → Int} {i i' : Nat} {ls ls' st st' : List fx_V} {M M' : fx_M} (h : fx_bin f i ls st M = some (i', ls', st', M')) : ∃ x y r, st = .inl y :: .inl x :: r ∧ i' = i + 1 ∧ ls' = ls ∧ st' = .inl (f x y) :: r ∧ M' = M := by
  unfold fx_bin at h
  split at h
  next y x r => cases h; exact ⟨x, y, r, rfl, rfl, rfl, rfl, rfl⟩
  next => cases h
theorem fx_binN_some {f : Int → Int → Int} {i i' : Nat} {ls ls' st st' : List fx_V} {M M' : fx_M} (h : fx_binN f i ls st M = some (i', ls', st', M')) : ∃ x y r, st = .inl y :: .inl x :: r ∧ ¬ Int32.ofInt y = 0 ∧ i' = i + 1 ∧ ls' = ls ∧ st' = .inl (f x y) :: r ∧ M' = M := by
  unfold fx_binN at h
  split at h
  next y x r =>
    split at h
    · cases h
    · next hz => cases h; exact ⟨x, y, r, rfl, hz, rfl, rfl, rfl, rfl⟩
  next => cases h
theorem fx_binL_some {f : Int64 → Int64 → Int64} {i i' : Nat} {ls ls' st st' : List fx_V} {M M' : fx_M} (h : fx_binL f i ls st M = some (i', ls', st', M')) : ∃ x y r, st = .inr (.inl y) :: .inr (.inl x) :: r ∧ i' = i + 1 ∧ ls' = ls ∧ st' = .inr (.inl (f x y)) :: r ∧ M' = M := by
  unfold fx_binL at h
  split at h
  next y x r => cases h; exact ⟨x, y, r, rfl, rfl, rfl, rfl, rfl⟩
  next => cases h
theorem fx_binLI_some {f : Int64 → Int32 → Int64} {i i' : Nat} {ls ls' st st' : List fx_V} {M M' : fx_M} (h : fx_binLI f i ls st M = some (i', ls', st', M')) : ∃ x y r, st = .inl y :: .inr (.inl x) :: r ∧ i' = i + 1 ∧ ls' = ls ∧ st' = .inr (.inl (f x (Int32.ofInt y))) :: r ∧ M' = M := by
  unfold fx_binLI at h
  split at h
  next y x r => cases h; exact ⟨x, y, r, rfl, rfl, rfl, rfl, rfl⟩
  next => cases h
theorem fx_ld_some {ty : Nat} {SH : List fx_S} {i i' : Nat} {ls ls' st st' : List fx_V} {M M' : fx_M} (h : fx_ld ty SH i ls st M = some (i', ls', st', M')) : ∃ x k r n, st = .inl x :: .inr (.inr (some k)) :: r ∧ SH[k]? = some (.inl (ty, n)) ∧ fx_ix x n = true ∧ i' = i + 1 ∧ ls' = ls ∧ st' = .inl (M k x.toNat) :: r ∧ M' = M := by
  unfold fx_ld at h
  split at h
  next x k r =>
    split at h
    next t n hs =>
      split at h
      next hc => obtain ⟨rfl, hi⟩ := hc; cases h; exact ⟨x, k, r, n, rfl, hs, hi, rfl, rfl, rfl, rfl⟩
      next => cases h
    next => cases h
  next => cases h
theorem fx_sd_some {ty : Nat} {SH : List fx_S} {i i' : Nat} {ls ls' st st' : List fx_V} {M M' : fx_M} (h : fx_sd ty SH i ls st M = some (i', ls', st', M')) : ∃ v x k r n, st = .inl v :: .inl x :: .inr (.inr (some k)) :: r ∧ SH[k]? = some (.inl (ty, n)) ∧ fx_ix x n = true ∧ fx_tk ty v = true ∧ i' = i + 1 ∧ ls' = ls ∧ st' = r ∧ M' = fx_set M k (fx_up (M k) x.toNat v) := by
  unfold fx_sd at h
  split at h
  next v x k r =>
    split at h
    next t n hs =>
      split at h
      next hc => obtain ⟨rfl, hi, ht⟩ := hc; cases h; exact ⟨v, x, k, _, n, rfl, hs, hi, ht, rfl, rfl, rfl, rfl⟩
      next => cases h
    next => cases h
  next => cases h
theorem fx_upd {f : Nat → Int} {x : Int} {n : Nat} (hi : fx_ix x n = true) (v : Int) : upd (fun j => Int32.ofInt (f j)) (Int32.ofInt x).toNatClampNeg (Int32.ofInt v) = fun j => Int32.ofInt (fx_up f x.toNat v j) := by
  rw [fx_ix_cl hi]
  funext j
  unfold upd fx_up
  by_cases hj : j = x.toNat <;> simp [hj]
theorem fx_nar_z {v : Int} (h : fx_tk 1 v = true) : vp_nar .boolean (Int32.ofInt v) = Int32.ofInt v := by
  simp only [fx_tk, Bool.or_eq_true, decide_eq_true_eq] at h
  rcases h with rfl | rfl <;> decide
theorem fx_char {v : Int} (h0 : 0 ≤ v) (h1 : v < 65536) : Int32.ofInt v = nI v.toNat := by
  rw [show v = ((v.toNat : Nat) : Int) by omega, Int32.ofInt_eq_ofNat]
  rfl
theorem fx_nar_c {v : Int} (h : fx_tk 2 v = true) : vp_nar .char (Int32.ofInt v) = Int32.ofInt v := by
  simp only [fx_tk, Bool.and_eq_true, decide_eq_true_eq] at h
  rw [fx_char h.1 h.2]
  have := (pk_charN (q := v.toNat) (by omega)).1
  unfold vp_nar
  rw [this]
end
section
section FXS
variable {p : Program} {l : Launch} {e : Env} {R : Room} {s : State} {m : MethodId} {args : Array Value} {below : List Frame} {meth : Method} {c : Code} {H : Heap} {locs : List Loc} {cells slots : Nat} {Q : State → Prop}
variable {cc : ByteArray} {nL rf rl len : Nat} {own OC : String} {TG : List Jvm.Cond} {cl : List vw_C} {CT CL : List (Nat × Int)} {FT PT : List (Nat × Nat × Nat)} {LT : List (Nat × Nat)} {pcs : List Nat} {G : fx_G} {RO : Nat → Nat × Nat}
variable {D : va_G} {tys : List (ClassId × FieldType)} {ad : Nat → Nat} {cA : Nat → ClassId} {SH : List fx_S} {Lx : Nat} {MX : Nat → Int} {A : Nat → Prop}
set_option maxHeartbeats 4000000 in
theorem fx_if_W (hx : p.tables.exec = Jvm.exec) (hb : c.code = cc) {cd : Jvm.ClassFile.Cond} {x : Int} {pc tgt : Nat} {off : Int} {L : Array Slot} {rest : List Value} (hr : fx_r x) (hd : decode cc pc = .ok (.ifCond cd off, 3)) (ht : (pc : Int) + off = (tgt : Int))
    (k : W p l e R s m args below meth c H locs cells slots Q (F0 m (if fx_cmp cd x 0 = true then tgt else pc + 3) L rest)) : W p l e R s m args below meth c H locs cells slots Q (F0 m pc L (.int (Int32.ofInt x) :: rest)) := by
  have e0 : (0 : Int32) = Int32.ofInt 0 := rfl
  cases cd <;> simp only [fx_cmp, decide_eq_true_eq] at k
  · refine lv_if_eq hx hb hd ht (fun h => ?_) (fun h => ?_) <;> rw [e0, fx_eq hr fx_r0] at h
    · rwa [if_pos h] at k
    · rwa [if_neg h] at k
  · refine lv_if_ne hx hb hd ht (fun h => ?_) (fun h => ?_) <;> rw [e0] at h <;> rw [fx_eq hr fx_r0] at h
    · rwa [if_pos h] at k
    · rwa [if_neg (fun q => q h)] at k
  · refine lv_if_lt hx hb hd ht (fun h => ?_) (fun h => ?_) <;> rw [e0, fx_lt hr fx_r0] at h
    · rwa [if_pos h] at k
    · rwa [if_neg h] at k
  · refine lv_if_ge hx hb hd ht (fun h => ?_) (fun h => ?_) <;> rw [e0, fx_le fx_r0 hr] at h
    · rwa [if_pos h] at k
    · rwa [if_neg h] at k
  · refine lv_if_gt hx hb hd ht (fun h => ?_) (fun h => ?_) <;> rw [e0, fx_lt fx_r0 hr] at h
    · rwa [if_pos h] at k
    · rwa [if_neg h] at k
  · refine lv_if_le hx hb hd ht (fun h => ?_) (fun h => ?_) <;> rw [e0, fx_le hr fx_r0] at h
    · rwa [if_pos h] at k
    · rwa [if_neg h] at k
set_option maxHeartbeats 4000000 in
theorem fx_icmp_W (hx : p.tables.exec = Jvm.exec) (hb : c.code = cc) {cd : Jvm.ClassFile.Cond} {x y : Int} {pc tgt : Nat} {off : Int} {L : Array Slot} {rest : List Value} (hr : fx_r x) (hy : fx_r y) (hd : decode cc pc = .ok (.if_icmp cd off, 3)) (ht : (pc : Int) + off = (tgt : Int))
    (k : W p l e R s m args below meth c H locs cells slots Q (F0 m (if fx_cmp cd x y = true then tgt else pc + 3) L rest)) : W p l e R s m args below meth c H locs cells slots Q (F0 m pc L (.int (Int32.ofInt y) :: .int (Int32.ofInt x) :: rest)) := by
  cases cd <;> simp only [fx_cmp, decide_eq_true_eq] at k
  · refine lv_icmp_eq hx hb hd ht (fun h => ?_) (fun h => ?_) <;> rw [fx_eq hr hy] at h
    · rwa [if_pos h] at k
    · rwa [if_neg h] at k
  · refine lv_icmp_ne hx hb hd ht (fun h => ?_) (fun h => ?_) <;> rw [fx_eq hr hy] at h
    · rwa [if_pos h] at k
    · rwa [if_neg (fun q => q h)] at k
  · refine lv_icmp_lt hx hb hd ht (fun h => ?_) (fun h => ?_) <;> rw [fx_lt hr hy] at h
    · rwa [if_pos h] at k
    · rwa [if_neg h] at k
  · refine lv_icmp_ge hx hb hd ht (fun h => ?_) (fun h => ?_) <;> rw [fx_le hy hr] at h
    · rwa [if_pos h] at k
    · rwa [if_neg h] at k
  · refine lv_icmp_gt hx hb hd ht (fun h => ?_) (fun h => ?_) <;> rw [fx_lt hy hr] at h
    · rwa [if_pos h] at k
    · rwa [if_neg h] at k
  · refine lv_icmp_le hx hb hd ht (fun h => ?_) (fun h => ?_) <;> rw [fx_le hr hy] at h
    · rwa [if_pos h] at k
    · rwa [if_neg h] at k
theorem fx_tgs_get {pc : Nat} : ∀ {os ts : List Int} (_ : fx_tgs pcs pc os ts = true) {k : Nat} {t : Int}, ts[k]? = some t → ∃ off, os[k]? = some off ∧ (pc : Int) + off = ((pcs.getD t.toNat 0 : Nat) : Int)
  | [], [], _, k, t, ht => by simp at ht
  | [], _ :: _, h, _, _, _ => by simp [fx_tgs] at h
  | _ :: _, [], h, _, _, _ => by simp [fx_tgs] at h
  | off :: r, t' :: r', h, k, t, ht => by
    simp only [fx_tgs, Bool.and_eq_true, fx_tg, decide_eq_true_eq] at h
    cases k with
    | zero =>
      simp only [List.getElem?_cons_zero, Option.some.injEq] at ht
      subst ht
      exact ⟨off, rfl, h.1⟩
    | succ k =>
      simp only [List.getElem?_cons_succ] at ht
      obtain ⟨o, h1, h2⟩ := fx_tgs_get h.2 ht
      exact ⟨o, by simpa using h1, h2⟩
theorem fx_tgp_lk {pc : Nat} {d' d : Int} (hd : (pc : Int) + d' = ((pcs.getD d.toNat 0 : Nat) : Int)) {x : Int} : ∀ {os ts : List (Int × Int)} (_ : fx_tgp pcs pc os ts = true), (pc : Int) + Op.lookupswitch.offset os d' x = ((pcs.getD (fx_lk ts d x).toNat 0 : Nat) : Int)
  | [], [], _ => by simpa [Op.lookupswitch.offset, fx_lk] using hd
  | [], _ :: _, h => by simp [fx_tgp] at h
  | _ :: _, [], h => by simp [fx_tgp] at h
  | (a, off) :: r, (b, t) :: r', h => by
    simp only [fx_tgp, Bool.and_eq_true, fx_tg, decide_eq_true_eq] at h
    obtain ⟨⟨rfl, h1⟩, h2⟩ := h
    have ih := fx_tgp_lk hd (x := x) h2
    by_cases hxa : x = a
    · subst hxa
      simpa [Op.lookupswitch.offset, fx_lk] using h1
    · have hax : ¬ a = x := fun q => hxa q.symm
      simpa [Op.lookupswitch.offset, fx_lk, hxa, hax] using ih

theorem fx_ce_fld {ad : Nat → Nat} {cA : Nat → ClassId} {M : fx_M} {k sl ci : Nat} {v : Int} {fs : List (Option Nat)} (h : fs[sl]? = some none) : (Sum.inr (ci, (fs.zipIdx.map (fun q => match q.1 with
    | some r => Value.ref (ad r)
    | none => .int (Int32.ofInt (M k q.2)))).set sl (.int (Int32.ofInt v))) : va_E) = fx_ce ad cA (fx_set M k (fx_up (M k) sl v)) k (.inr (.inl (ci, fs))) := by
  have hfl : sl < fs.length := (List.getElem?_eq_some_iff.mp h).1
  show Sum.inr _ = Sum.inr _
  congr 2
  refine List.ext_getElem? fun q => ?_
  by_cases hq : q = sl
  · subst hq
    rw [List.getElem?_set_self (by simpa using hfl), List.getElem?_map, List.getElem?_zipIdx, h]
    simp [fx_set, fx_up]
  · rw [List.getElem?_set_ne (Ne.symm hq), List.getElem?_map, List.getElem?_map, List.getElem?_zipIdx]
    rcases fs[q]? with _ | _ | a
    · rfl
    · simp [fx_set, fx_up, hq]
    · rfl
theorem fx_ce_cp {ad : Nat → Nat} {cA : Nat → ClassId} {M : fx_M} {k n1 : Nat} (f : Nat → Int) (sp dp n : Nat) : (Sum.inl (cA 0, (n1, Sum.inl (va_cpy (fun j => Int32.ofInt (f j)) (fun j => Int32.ofInt (M k j)) sp dp n))) : va_E) = fx_ce ad cA (fx_set M k (fx_cp f (M k) sp dp n)) k (.inl (0, n1)) := by
  show Sum.inl _ = Sum.inl _
  congr 3
  refine congrArg Sum.inl ?_
  funext j
  simp only [va_cpy, fx_set, fx_cp, if_true]
  split <;> rfl
set_option maxHeartbeats 16000000 in
set_option maxRecDepth 4000 in
theorem fx_step_W {o mm : Instr} {i i' pc : Nat} {ls ls' st st' : List fx_V} {M M' : fx_M} {L : Array Slot} (hx : p.tables.exec = Jvm.exec) (hb : c.code = cc) (hml : c.maxLocals = nL) (hown : s.vm.findClass own = some m.cls) (hts : ∀ w ∈ TG, w.before args s = true)
    (hT : fx_Tab own TG cl CT CL FT PT LT) (hcl : fx_Cl TG cl) (hty : fx_Ty tys cA OC) (hrf : rf ≤ R.frames) (hrl : rl ≤ R.locals) (hcs : cells ≤ R.cells ∧ slots ≤ R.slots) (hK : va_K D cl tys s) (hW : fx_Wd D cl ad cA SH s.heap A M H locs) (hX : fx_X ad SH Lx MX A s)
    (hl : lv_has L nL (fx_prs ad ls)) (hlen : ls.length = nL) (hd : decode cc pc = .ok (o, len)) (hn : fx_nrm CT CL FT PT LT pcs G RO rf rl pc len mm o = true) (hpc1 : pcs.getD (i + 1) 0 = pc + len)
    (hs : fx_step SH Lx MX mm i ls st M = some (i', ls', st', M'))
    (kk : ∀ (H' : Heap) (locs' : List Loc) (L' : Array Slot), fx_Wd D cl ad cA SH s.heap A M' H' locs' → lv_has L' nL (fx_prs ad ls') → ls'.length = nL → W p l e R s m args below meth c H' locs' cells slots Q (F0 m (pcs.getD i' 0) L' (st'.map (fx_g ad)))) :
    W p l e R s m args below meth c H locs cells slots Q (F0 m pc L (st.map (fx_g ad))) := by
  obtain ⟨hCT, hCL, hFT, hPT, hLT, hLM, hLm⟩ := hT
  obtain ⟨ht0, ht1, ht2, ht3⟩ := hty
  cases mm <;> simp only [fx_nrm, Bool.false_eq_true] at hn
  all_goals simp only [fx_step] at hs
  case iadd =>
    simp only [decide_eq_true_eq] at hn
    obtain ⟨rfl, rfl⟩ := hn
    obtain ⟨x, y, r, rfl, rfl, rfl, rfl, rfl⟩ := fx_bin_some hs
    have K := kk _ _ _ hW hl hlen
    rw [hpc1] at K
    refine lv_iadd hx hb hd ?_
    rw [← Int32.ofInt_add]
    exact K
  case isub =>
    simp only [decide_eq_true_eq] at hn
    obtain ⟨rfl, rfl⟩ := hn
    obtain ⟨x, y, r, rfl, rfl, rfl, rfl, rfl⟩ := fx_bin_some hs
    have K := kk _ _ _ hW hl hlen
    rw [hpc1] at K
    refine lv_isub hx hb hd ?_
    rw [← Int32.ofInt_sub]
    exact K
  case imul =>
    simp only [decide_eq_true_eq] at hn
    obtain ⟨rfl, rfl⟩ := hn
    obtain ⟨x, y, r, rfl, rfl, rfl, rfl, rfl⟩ := fx_bin_some hs
    have K := kk _ _ _ hW hl hlen
    rw [hpc1] at K
    refine lv_imul hx hb hd ?_
    rw [← Int32.ofInt_mul]
    exact K
  case iand =>
    simp only [decide_eq_true_eq] at hn
    obtain ⟨rfl, rfl⟩ := hn
    obtain ⟨x, y, r, rfl, rfl, rfl, rfl, rfl⟩ := fx_bin_some hs
    have K := kk _ _ _ hW hl hlen
    rw [hpc1] at K
    refine lv_iand hx hb hd ?_
    rw [← Int32.ofInt_toInt (Int32.ofInt x &&& Int32.ofInt y)]
    exact K
  case ior =>
    simp only [decide_eq_true_eq] at hn
    obtain ⟨rfl, rfl⟩ := hn
    obtain ⟨x, y, r, rfl, rfl, rfl, rfl, rfl⟩ := fx_bin_some hs
    have K := kk _ _ _ hW hl hlen
    rw [hpc1] at K
    refine lv_ior hx hb hd ?_
    rw [← Int32.ofInt_toInt (Int32.ofInt x ||| Int32.ofInt y)]
    exact K
  case ixor =>
    simp only [decide_eq_true_eq] at hn
    obtain ⟨rfl, rfl⟩ := hn
    obtain ⟨x, y, r, rfl, rfl, rfl, rfl, rfl⟩ := fx_bin_some hs
    have K := kk _ _ _ hW hl hlen
    rw [hpc1] at K
    refine lv_ixor hx hb hd ?_
    rw [← Int32.ofInt_toInt (Int32.ofInt x ^^^ Int32.ofInt y)]
    exact K
  case ishl =>
    simp only [decide_eq_true_eq] at hn
    obtain ⟨rfl, rfl⟩ := hn
    obtain ⟨x, y, r, rfl, rfl, rfl, rfl, rfl⟩ := fx_bin_some hs
    have K := kk _ _ _ hW hl hlen
    rw [hpc1] at K
    refine lv_ishl hx hb hd ?_
    rw [← Int32.ofInt_toInt (Int32.ofInt x <<< (Int32.ofInt y &&& 31))]
    exact K
  case ishr =>
    simp only [decide_eq_true_eq] at hn
    obtain ⟨rfl, rfl⟩ := hn
    obtain ⟨x, y, r, rfl, rfl, rfl, rfl, rfl⟩ := fx_bin_some hs
    have K := kk _ _ _ hW hl hlen
    rw [hpc1] at K
    refine lv_ishr hx hb hd ?_
    rw [← Int32.ofInt_toInt (Int32.ofInt x >>> (Int32.ofInt y &&& 31))]
    exact K
  case iushr =>
    simp only [decide_eq_true_eq] at hn
    obtain ⟨rfl, rfl⟩ := hn
    obtain ⟨x, y, r, rfl, rfl, rfl, rfl, rfl⟩ := fx_bin_some hs
    have K := kk _ _ _ hW hl hlen
    rw [hpc1] at K
    exact lv_iushr hx hb hd (v := Int32.ofInt (fx_ushr x y)) (Int32.ofInt_toInt _).symm K
  case idiv =>
    simp only [decide_eq_true_eq] at hn
    obtain ⟨rfl, rfl⟩ := hn
    obtain ⟨x, y, r, rfl, hz, rfl, rfl, rfl, rfl⟩ := fx_binN_some hs
    have K := kk _ _ _ hW hl hlen
    rw [hpc1] at K
    refine lv_idiv hx hb hd hz ?_
    rw [← Int32.ofInt_toInt (Int32.ofInt x / Int32.ofInt y)]
    exact K
  case irem =>
    simp only [decide_eq_true_eq] at hn
    obtain ⟨rfl, rfl⟩ := hn
    obtain ⟨x, y, r, rfl, hz, rfl, rfl, rfl, rfl⟩ := fx_binN_some hs
    have K := kk _ _ _ hW hl hlen
    rw [hpc1] at K
    refine lv_irem hx hb hd hz ?_
    rw [← Int32.ofInt_toInt (Int32.ofInt x - Int32.ofInt x / Int32.ofInt y * Int32.ofInt y)]
    exact K
  case land =>
    simp only [decide_eq_true_eq] at hn
    obtain ⟨rfl, rfl⟩ := hn
    obtain ⟨x, y, r, rfl, rfl, rfl, rfl, rfl⟩ := fx_binL_some hs
    have K := kk _ _ _ hW hl hlen
    rw [hpc1] at K
    exact lv_land hx hb hd K
  case lor =>
    simp only [decide_eq_true_eq] at hn
    obtain ⟨rfl, rfl⟩ := hn
    obtain ⟨x, y, r, rfl, rfl, rfl, rfl, rfl⟩ := fx_binL_some hs
    have K := kk _ _ _ hW hl hlen
    rw [hpc1] at K
    exact lv_lor hx hb hd K
  case lshl =>
    simp only [decide_eq_true_eq] at hn
    obtain ⟨rfl, rfl⟩ := hn
    obtain ⟨x, y, r, rfl, rfl, rfl, rfl, rfl⟩ := fx_binLI_some hs
    have K := kk _ _ _ hW hl hlen
    rw [hpc1] at K
    exact lv_lshl hx hb hd rfl K
  case lushr =>
    simp only [decide_eq_true_eq] at hn
    obtain ⟨rfl, rfl⟩ := hn
    obtain ⟨x, y, r, rfl, rfl, rfl, rfl, rfl⟩ := fx_binLI_some hs
    have K := kk _ _ _ hW hl hlen
    rw [hpc1] at K
    exact lv_lushr hx hb hd rfl K
  case lcmp =>
    simp only [decide_eq_true_eq] at hn
    obtain ⟨rfl, rfl⟩ := hn
    split at hs
    next y x r =>
      cases hs
      have K := kk _ _ _ hW hl hlen
      rw [hpc1] at K
      refine W.lcmp hx hb hd ?_
      rw [← Int32.ofInt_toInt (lg_cmp x y)]
      exact K
    next => cases hs
  case i2l =>
    simp only [decide_eq_true_eq] at hn
    obtain ⟨rfl, rfl⟩ := hn
    split at hs
    next x r =>
      cases hs
      have K := kk _ _ _ hW hl hlen
      rw [hpc1] at K
      exact lv_i2l hx hb hd rfl K
    next => cases hs
  case l2i =>
    simp only [decide_eq_true_eq] at hn
    obtain ⟨rfl, rfl⟩ := hn
    split at hs
    next x r =>
      cases hs
      have K := kk _ _ _ hW hl hlen
      rw [hpc1] at K
      exact lv_l2i hx hb hd (Int32.ofInt_toInt _).symm K
    next => cases hs
  case i2c =>
    simp only [decide_eq_true_eq] at hn
    obtain ⟨rfl, rfl⟩ := hn
    split at hs
    next x r =>
      cases hs
      have K := kk _ _ _ hW hl hlen
      rw [hpc1] at K
      exact lv_i2c hx hb hd (v := Int32.ofInt (fx_i2c x)) (Int32.ofInt_toInt _).symm K
    next => cases hs
  case dup =>
    simp only [decide_eq_true_eq] at hn
    obtain ⟨rfl, rfl⟩ := hn
    split at hs
    next v r =>
      split at hs
      next hv =>
        cases hs
        have K := kk _ _ _ hW hl hlen
        rw [hpc1] at K
        exact lv_dup hx hb hd ((fx_ct_g v).trans hv) K
      next => cases hs
    next => cases hs
  case dup2 =>
    simp only [decide_eq_true_eq] at hn
    obtain ⟨rfl, rfl⟩ := hn
    split at hs
    next v w r =>
      split at hs
      next hv =>
        cases hs
        have K := kk _ _ _ hW hl hlen
        rw [hpc1] at K
        exact lv_dup2_11 hx hb hd ((fx_ct_g v).trans hv.1) ((fx_ct_g w).trans hv.2) K
      next => cases hs
    next => cases hs
  case sipush =>
    rename_i v
    cases hs
    have K := kk _ _ _ hW hl hlen
    rw [hpc1] at K
    split at hn
    · simp only [decide_eq_true_eq] at hn; obtain ⟨rfl, h2⟩ := hn; exact lv_iconst hx hb hd h2 K
    · simp only [decide_eq_true_eq] at hn; obtain ⟨rfl, h2⟩ := hn; exact lv_bipush hx hb hd h2 K
    · simp only [decide_eq_true_eq] at hn; obtain ⟨rfl, h2⟩ := hn; exact lv_sipush hx hb hd h2 K
    · simp only [decide_eq_true_eq] at hn; obtain ⟨rfl, h2⟩ := hn; exact lv_ldc hx hb hown (hts _ (hCT _ h2)) hd K
    · simp only [decide_eq_true_eq] at hn; obtain ⟨rfl, h2⟩ := hn; exact lv_ldcw hx hb hown (hts _ (hCT _ h2)) hd K
    · cases hn
  case goto_w =>
    rename_i v
    cases hs
    have K := kk _ _ _ hW hl hlen
    rw [hpc1] at K
    split at hn
    · simp only [decide_eq_true_eq] at hn; obtain ⟨rfl, h2⟩ := hn; exact lv_lconst hx hb hd h2 K
    · simp only [decide_eq_true_eq] at hn; obtain ⟨rfl, h2⟩ := hn; exact lv_ldc2 hx hb hown (hts _ (hCL _ h2)) hd K
    · cases hn
  case iload =>
    split at hs
    next x hk =>
      cases hs
      have K := kk _ _ _ hW hl hlen
      rw [hpc1] at K
      have hg := fx_lh_get hl hk rfl
      split at hn
      · simp only [decide_eq_true_eq] at hn; obtain ⟨rfl, h2⟩ := hn; exact lv_iload_n hx hb hd h2 hg K
      · simp only [decide_eq_true_eq] at hn; obtain ⟨rfl, rfl⟩ := hn; exact lv_iload hx hb hd hg K
      · cases hn
    next => cases hs
  case lload =>
    split at hs
    next x hk =>
      cases hs
      have K := kk _ _ _ hW hl hlen
      rw [hpc1] at K
      have hg := fx_lh_get hl hk rfl
      split at hn
      · simp only [decide_eq_true_eq] at hn; obtain ⟨rfl, h2⟩ := hn; exact lv_lload_n hx hb hd h2 hg K
      · simp only [decide_eq_true_eq] at hn; obtain ⟨rfl, rfl⟩ := hn; exact lv_lload hx hb hd hg K
      · cases hn
    next => cases hs
  case aload =>
    split at hs
    next x hk =>
      cases hs
      have K := kk _ _ _ hW hl hlen
      rw [hpc1] at K
      have hg := fx_lh_get hl hk rfl
      split at hn
      · simp only [decide_eq_true_eq] at hn; obtain ⟨rfl, h2⟩ := hn; exact lv_aload_n hx hb hd h2 hg K
      · simp only [decide_eq_true_eq] at hn; obtain ⟨rfl, rfl⟩ := hn; exact lv_aload hx hb hd hg K
      · cases hn
    next => cases hs
  case istore =>
    rename_i k0
    split at hs
    next x r =>
      split at hs
      next hf =>
        cases hs
        have hk : k0 < nL := by rw [← hlen]; exact of_decide_eq_true ((Bool.and_eq_true _ _).mp hf).1
        split at hn
        · simp only [decide_eq_true_eq] at hn; obtain ⟨rfl, h2⟩ := hn; refine lv_istore_n hx hb hd h2 hl hk rfl (fun L' hl' => ?_); rw [← hpc1]; exact kk _ _ _ hW (fx_lh_set rfl hf hl') (by rw [List.length_set]; exact hlen)
        · simp only [decide_eq_true_eq] at hn; obtain ⟨rfl, rfl⟩ := hn; refine lv_istore hx hb hd hl hk rfl (fun L' hl' => ?_); rw [← hpc1]; exact kk _ _ _ hW (fx_lh_set rfl hf hl') (by rw [List.length_set]; exact hlen)
        · cases hn
      next => cases hs
    next => cases hs
  case astore =>
    rename_i k0
    split at hs
    next x r =>
      split at hs
      next hf =>
        cases hs
        have hk : k0 < nL := by rw [← hlen]; exact of_decide_eq_true ((Bool.and_eq_true _ _).mp hf).1
        split at hn
        · simp only [decide_eq_true_eq] at hn; obtain ⟨rfl, h2⟩ := hn; refine lv_astore_n hx hb hd h2 hl hk rfl (fun L' hl' => ?_); rw [← hpc1]; exact kk _ _ _ hW (fx_lh_set rfl hf hl') (by rw [List.length_set]; exact hlen)
        · simp only [decide_eq_true_eq] at hn; obtain ⟨rfl, rfl⟩ := hn; refine lv_astore hx hb hd hl hk rfl (fun L' hl' => ?_); rw [← hpc1]; exact kk _ _ _ hW (fx_lh_set rfl hf hl') (by rw [List.length_set]; exact hlen)
        · cases hn
      next => cases hs
    next => cases hs
  case lstore =>
    rename_i k0
    split at hs
    next x r =>
      split at hs
      next hf =>
        cases hs
        have hk : k0 + 1 < nL := by rw [← hlen]; exact hf.2
        split at hn
        · simp only [decide_eq_true_eq] at hn; obtain ⟨rfl, h2⟩ := hn; refine lv_lstore_n hx hb hd h2 hl hk rfl (fun L' hl' => ?_); rw [← hpc1]; exact kk _ _ _ hW (fx_lh_set2 hf.1 hf.2 hl') (by rw [List.length_set, List.length_set]; exact hlen)
        · simp only [decide_eq_true_eq] at hn; obtain ⟨rfl, rfl⟩ := hn; refine lv_lstore hx hb hd hl hk rfl (fun L' hl' => ?_); rw [← hpc1]; exact kk _ _ _ hW (fx_lh_set2 hf.1 hf.2 hl') (by rw [List.length_set, List.length_set]; exact hlen)
        · cases hn
      next => cases hs
    next => cases hs
  case iinc =>
    simp only [decide_eq_true_eq] at hn
    obtain ⟨rfl, rfl⟩ := hn
    rename_i k0 n0
    split at hs
    next x hk =>
      split at hs
      next hf =>
        cases hs
        have hkl : k0 < nL := by rw [← hlen]; exact of_decide_eq_true ((Bool.and_eq_true _ _).mp hf).1
        obtain ⟨z, hz⟩ := List.getElem?_of_mem (fx_prs_mem.mpr ⟨_, hk, rfl⟩ : (k0, Value.int (Int32.ofInt x)) ∈ fx_prs ad ls)
        refine lv_iinc hx hb hd hl hz (v := Int32.ofInt (x + n0)) (by rw [Int32.ofInt_add]) hkl rfl (fun L' hl' => ?_)
        rw [← hpc1]
        exact kk _ _ _ hW (fx_lh_set rfl hf hl') (by rw [List.length_set]; exact hlen)
      next => cases hs
    next => cases hs
  case ifCond =>
    rename_i cd t
    split at hs
    next x r =>
      split at hs
      next hr =>
        cases hs
        have K := kk _ _ _ hW hl hlen
        split at hn
        · simp only [Bool.and_eq_true, decide_eq_true_eq, fx_tg] at hn
          obtain ⟨⟨rfl, rfl⟩, ht⟩ := hn
          refine fx_if_W hx hb (fx_rb_iff.mp hr) hd ht ?_
          rw [← hpc1, ← apply_ite (fun z => pcs.getD z 0)]
          exact K
        · cases hn
      next => cases hs
    next => cases hs
  case if_icmp =>
    rename_i cd t
    split at hs
    next y x r =>
      split at hs
      next hr =>
        cases hs
        have K := kk _ _ _ hW hl hlen
        split at hn
        · simp only [Bool.and_eq_true, decide_eq_true_eq, fx_tg] at hn
          obtain ⟨⟨rfl, rfl⟩, ht⟩ := hn
          refine fx_icmp_W hx hb (fx_rb_iff.mp hr.1) (fx_rb_iff.mp hr.2) hd ht ?_
          rw [← hpc1, ← apply_ite (fun z => pcs.getD z 0)]
          exact K
        · cases hn
      next => cases hs
    next => cases hs
  case goto =>
    cases hs
    have K := kk _ _ _ hW hl hlen
    split at hn
    · simp only [Bool.and_eq_true, decide_eq_true_eq, fx_tg] at hn
      obtain ⟨rfl, ht⟩ := hn
      exact lv_goto hx hb hd ht K
    · cases hn
  case tableswitch =>
    rename_i d lo hi ts
    split at hs
    next x r =>
      split at hs
      next hr =>
        have hr := fx_rb_iff.mp hr
        have ex : (Int32.ofInt x).toInt = x := Int32.toInt_ofInt_of_le hr.1 hr.2
        split at hn
        · simp only [Bool.and_eq_true, decide_eq_true_eq, fx_tg] at hn
          obtain ⟨⟨⟨rfl, rfl⟩, hdt⟩, htt⟩ := hn
          split at hs
          next hc =>
            cases hs
            exact lv_tableOut hx hb hd (by rw [ex]; exact hc) hdt (kk _ _ _ hW hl hlen)
          next hc =>
            split at hs
            next t ht =>
              cases hs
              obtain ⟨off, h1, h2⟩ := fx_tgs_get htt (k := (x - _).toNat) (by rw [Array.getElem?_toList]; exact ht)
              exact lv_tableIn hx hb hd (by rw [ex]; omega) (by rw [ex]; omega) (by rw [ex, ← Array.getElem?_toList]; exact h1) h2 (kk _ _ _ hW hl hlen)
            next => cases hs
        · cases hn
      next => cases hs
    next => cases hs
  case lookupswitch =>
    rename_i d ts
    split at hs
    next x r =>
      split at hs
      next hr =>
        cases hs
        have hr := fx_rb_iff.mp hr
        have ex : (Int32.ofInt x).toInt = x := Int32.toInt_ofInt_of_le hr.1 hr.2
        split at hn
        · simp only [Bool.and_eq_true, fx_tg] at hn
          obtain ⟨⟨hz, hdt⟩, htt⟩ := hn
          simp only [decide_eq_true_eq] at hdt
          exact lv_lookup hx hb hd hz rfl (by rw [ex]; exact fx_tgp_lk hdt htt) (kk _ _ _ hW hl hlen)
        · cases hn
      next => cases hs
    next => cases hs
  case baload =>
    simp only [decide_eq_true_eq] at hn
    obtain ⟨rfl, rfl⟩ := hn
    obtain ⟨x, k, r, n, rfl, hk, hi, rfl, rfl, rfl, rfl⟩ := fx_ld_some hs
    have K := kk _ _ _ hW hl hlen
    rw [hpc1] at K
    refine va_zald hx hb hK hW.1 k 1 (fx_wl_get hk) ht1 (fx_ix_in hi) hd ?_
    rw [fx_ix_cl hi]
    exact K
  case caload =>
    simp only [decide_eq_true_eq] at hn
    obtain ⟨rfl, rfl⟩ := hn
    obtain ⟨x, k, r, n, rfl, hk, hi, rfl, rfl, rfl, rfl⟩ := fx_ld_some hs
    have K := kk _ _ _ hW hl hlen
    rw [hpc1] at K
    refine va_cald hx hb hK hW.1 k 2 (fx_wl_get hk) ht2 (fx_ix_in hi) hd ?_
    rw [fx_ix_cl hi]
    exact K
  case iaload =>
    simp only [decide_eq_true_eq] at hn
    obtain ⟨rfl, rfl⟩ := hn
    unfold fx_ldx at hs
    split at hs
    next x k r =>
      split at hs
      next hkx =>
        split at hs
        next hi =>
          cases hs
          subst hkx
          have K := kk _ _ _ hW hl hlen
          rw [hpc1] at K
          have hL0 : 0 < Lx := by have := fx_ix_iff.mp hi; omega
          obtain ⟨hLb, hXX, hXl, hXA⟩ := hX hL0
          refine va_sld hx hb hXX hXl hXA hW.2.2 (fx_ix_in hi) hd ?_
          rw [fx_ix_cl hi]
          exact K
        next => cases hs
      next hkx =>
        obtain ⟨x', k', r', n, he, hk, hi, rfl, rfl, rfl, rfl⟩ := fx_ld_some hs
        cases he
        have K := kk _ _ _ hW hl hlen
        rw [hpc1] at K
        refine va_iald hx hb hK hW.1 k 0 (fx_wl_get hk) ht0 (fx_ix_in hi) hd ?_
        rw [fx_ix_cl hi]
        exact K
    next => cases hs
  case iastore =>
    simp only [decide_eq_true_eq] at hn
    obtain ⟨rfl, rfl⟩ := hn
    obtain ⟨v, x, k, r, n, rfl, hk, hi, ht, rfl, rfl, rfl, rfl⟩ := fx_sd_some hs
    refine va_iast hx hb hK hW.1 hW.2.1 hW.2.2 k 0 (fx_wl_get hk) ht0 (fx_ix_in hi) hd (fun H1 locs1 hP hD hS => ?_)
    rw [← hpc1]
    rw [fx_wl_set (f := fx_up (M k) x.toNat v) hk (by rw [fx_upd hi]; simp [fx_ce, fx_set])] at hP hD
    exact kk _ _ _ ⟨hP, hD, hS⟩ hl hlen
  case bastore =>
    simp only [decide_eq_true_eq] at hn
    obtain ⟨rfl, rfl⟩ := hn
    obtain ⟨v, x, k, r, n, rfl, hk, hi, ht, rfl, rfl, rfl, rfl⟩ := fx_sd_some hs
    refine va_zast hx hb hK hW.1 hW.2.1 hW.2.2 k 1 (fx_wl_get hk) ht1 (fx_ix_in hi) hd (fun H1 locs1 hP hD hS => ?_)
    rw [← hpc1]
    rw [fx_nar_z ht] at hP hD
    rw [fx_wl_set (f := fx_up (M k) x.toNat v) hk (by rw [fx_upd hi]; simp [fx_ce, fx_set])] at hP hD
    exact kk _ _ _ ⟨hP, hD, hS⟩ hl hlen
  case castore =>
    simp only [decide_eq_true_eq] at hn
    obtain ⟨rfl, rfl⟩ := hn
    obtain ⟨v, x, k, r, n, rfl, hk, hi, ht, rfl, rfl, rfl, rfl⟩ := fx_sd_some hs
    refine va_cast hx hb hK hW.1 hW.2.1 hW.2.2 k 2 (fx_wl_get hk) ht2 (fx_ix_in hi) hd (fun H1 locs1 hP hD hS => ?_)
    rw [← hpc1]
    rw [fx_nar_c ht] at hP hD
    rw [fx_wl_set (f := fx_up (M k) x.toNat v) hk (by rw [fx_upd hi]; simp [fx_ce, fx_set])] at hP hD
    exact kk _ _ _ ⟨hP, hD, hS⟩ hl hlen
  case aaload =>
    simp only [decide_eq_true_eq] at hn
    obtain ⟨rfl, rfl⟩ := hn
    split at hs
    next x k r =>
      split at hs
      next li hk =>
        split at hs
        next hi =>
          split at hs
          next a ha =>
            cases hs
            have K := kk _ _ _ hW hl hlen
            rw [hpc1] at K
            refine va_aldq hx hb hK hW.1 k 3 (fx_wl_get hk) ht3 (fx_ix_in hi) hd ?_
            rw [fx_ix_cl hi, ha]
            exact K
          next => cases hs
        next => cases hs
      next => cases hs
    next => cases hs
  case arraylength =>
    simp only [decide_eq_true_eq] at hn
    obtain ⟨rfl, rfl⟩ := hn
    split at hs
    next k r =>
      split at hs
      next hkx =>
        split at hs
        next hL0 =>
          cases hs
          subst hkx
          have K := kk _ _ _ hW hl hlen
          rw [hpc1] at K
          obtain ⟨hLb, hXX, hXl, hXA⟩ := hX hL0
          refine va_slen hx hb hXX hXl hXA hW.2.2 hd ?_
          rw [← Int32.ofInt_eq_ofNat]
          exact K
        next => cases hs
      next hkx =>
        split at hs
        next n hk =>
          cases hs
          have K := kk _ _ _ hW hl hlen
          rw [hpc1] at K
          exact va_alen hx hb hK hW.1 k 0 (fx_wl_get hk) ht0 Int32.ofInt_eq_ofNat.symm hd K
        next => cases hs
    next => cases hs
  case invokeinterface =>
    rename_i ci sl
    split at hs
    next k r =>
      split at hs
      next cj fs hk =>
        split at hs
        next hc =>
          subst hc
          split at hn
          · simp only [decide_eq_true_eq] at hn
            obtain ⟨rfl, hq⟩ := hn
            obtain ⟨C, T, N, hcj, hslN, hlink⟩ := hFT _ hq
            obtain ⟨hu, -, -⟩ := hcl _ _ _ _ hcj
            have key : ∀ (o : Option Nat), fs[sl]? = some o → ∀ w, w = (match o with | some r => Value.ref (ad r) | none => .int (Int32.ofInt (M k sl))) → W p l e R s m args below meth c H locs cells slots Q (F0 m (pc + 3) L (w :: r.map (fx_g ad))) → W p l e R s m args below meth c H locs cells slots Q (F0 m pc L (.ref (ad k) :: r.map (fx_g ad))) := by
              intro o ho w hw K
              refine va_get (cl := cl) (C := C) (T := T) (N := N) hx hb hts hu hown hK hW.1 k (fx_wl_get hk) hcj sl hslN (hts _ hlink) (fun _ h9 => h9) (v := w) ?_ hd K
              rw [List.getElem?_map, List.getElem?_zipIdx, ho, hw]
              simp
              rcases o with _ | o <;> rfl
            split at hs
            next a ha =>
              cases hs
              have K := kk _ _ _ hW hl hlen
              rw [hpc1] at K
              exact key _ ha _ rfl K
            next ha =>
              cases hs
              have K := kk _ _ _ hW hl hlen
              rw [hpc1] at K
              exact key _ ha _ rfl K
            next => cases hs
          · cases hn
        next => cases hs
      next => cases hs
    next => cases hs
  case multianewarray =>
    rename_i ci sl
    split at hs
    next v k r =>
      split at hs
      next cj fs hk =>
        split at hs
        next hc =>
          subst hc
          split at hn
          · simp only [decide_eq_true_eq] at hn
            obtain ⟨rfl, hq⟩ := hn
            obtain ⟨C, T, N, hcj, hslN, hlink, hfin, hpi⟩ := hPT _ hq
            obtain ⟨hu, ⟨ty0, hty0⟩, hnm⟩ := hcl _ _ _ _ hcj
            split at hs
            next ha =>
              cases hs
              have hfl : sl < fs.length := (List.getElem?_eq_some_iff.mp ha).1
              refine va_put (cl := cl) (C := C) (T := T) (N := N) hx hb hts hu ty0 hty0 hnm hown hK hW.1 hW.2.1 hW.2.2 k (fx_wl_get hk) hcj sl hslN (hts _ hlink) (fun _ h9 => h9) hfin hpi (v := .int (Int32.ofInt v)) rfl rfl (by simp [hfl]) hd (fun H1 locs1 hP hD hS => ?_)
              rw [← hpc1]
              have ew := fx_wl_set (ad := ad) (cA := cA) (f := fx_up (M k) sl v) hk (fx_ce_fld (ad := ad) (cA := cA) ha)
              exact kk _ _ _ ⟨Eq.mp (congrArg (fun z => va_P D cl z H1) ew) hP, Eq.mp (congrArg (fun z => va_D A z) ew) hD, hS⟩ hl hlen
            next => cases hs
          · cases hn
        next => cases hs
      next => cases hs
    next => cases hs
  case nop =>
    split at hs
    next n dp k1 sp k0 r =>
      split at hs
      next n0 n1 hk0 hk1 =>
        split at hs
        next hc =>
          obtain ⟨q1, q2, q3, q4, q5, q6, q7, q8, q9⟩ := hc
          cases hs
          have q1 := fx_rb_iff.mp q1
          have q2 := fx_rb_iff.mp q2
          have q3 := fx_rb_iff.mp q3
          split at hn
          · simp only [decide_eq_true_eq] at hn
            obtain ⟨rfl, hq, h1f, h1l⟩ := hn
            obtain ⟨w1, w2, w3, w4⟩ := hLT _ hq rfl
            have cl0 : ∀ z : Int, fx_r z → (Int32.ofInt z).toNatClampNeg = z.toNat := fun z hz => Int32.toNatClampNeg_ofInt_of_le hz.1 hz.2
            have ng : ∀ z : Int, fx_r z → 0 ≤ z → ¬ Int32.ofInt z < 0 := fun z hz h0 h => by rw [show (0 : Int32) = Int32.ofInt 0 from rfl, fx_lt hz fx_r0] at h; omega
            refine va_copyi hx hb (hml.trans hl.1.symm) hown (hts _ w1) (hts _ w2) (hts _ w3) (hts _ w4) hK hW.1 hW.2.1 hW.2.2 k0 k1 0 0 (fx_wl_get hk0) (fx_wl_get hk1) ht0 ht0 rfl (ng _ q3 q6) (ng _ q2 q5) (ng _ q1 q4) (by rw [cl0 _ q3, cl0 _ q1]; omega) (by rw [cl0 _ q2, cl0 _ q1]; omega) (fun _ _ => rfl) (by omega) ?_ hd (fun H1 locs1 hP hD hS => ?_)
            · rw [fx_cs_g]; omega
            · rw [← hpc1]
              rw [cl0 _ q1, cl0 _ q2, cl0 _ q3] at hP hD
              rw [fx_wl_set (f := fx_cp (M k0) (M k1) sp.toNat dp.toNat n.toNat) hk1 (fx_ce_cp _ _ _ _)] at hP hD
              exact kk _ _ _ ⟨hP, hD, hS⟩ hl hlen
          · cases hn
        next => cases hs
      next => cases hs
    next => cases hs
  case swap =>
    split at hs
    next y x r =>
      split at hs
      next hc =>
        obtain ⟨q1, q2, q3⟩ := hc
        cases hs
        have q1 := fx_rb_iff.mp q1
        have q2 := fx_rb_iff.mp q2
        have K := kk _ _ _ hW hl hlen
        split at hn
        · simp only [decide_eq_true_eq] at hn
          obtain ⟨rfl, hq, h1f, h1l⟩ := hn
          obtain ⟨w1, w2, w3, w4⟩ := hLM _ hq rfl
          refine va_mmax hx hb (hml.trans hl.1.symm) hown (hts _ w1) (hts _ w2) (hts _ w3) (hts _ w4) (by omega) (by rw [fx_cs_g]; omega) hcs.1 hcs.2 hd ?_
          rw [hpc1] at K
          rw [show (if Int32.ofInt x < Int32.ofInt y then Int32.ofInt y else Int32.ofInt x) = Int32.ofInt (if x < y then y else x) by simp only [fx_lt q1 q2, apply_ite Int32.ofInt]]
          exact K
        · cases hn
      next => cases hs
    next => cases hs
  case pop2 =>
    split at hs
    next y x r =>
      split at hs
      next hc =>
        obtain ⟨q1, q2, q3⟩ := hc
        cases hs
        have q1 := fx_rb_iff.mp q1
        have q2 := fx_rb_iff.mp q2
        have K := kk _ _ _ hW hl hlen
        split at hn
        · simp only [decide_eq_true_eq] at hn
          obtain ⟨rfl, hq, h1f, h1l⟩ := hn
          obtain ⟨w1, w2, w3, w4⟩ := hLm _ hq rfl
          refine va_mmin hx hb (hml.trans hl.1.symm) hown (hts _ w1) (hts _ w2) (hts _ w3) (hts _ w4) (by omega) (by rw [fx_cs_g]; omega) hcs.1 hcs.2 hd ?_
          rw [hpc1] at K
          rw [show (if Int32.ofInt y < Int32.ofInt x then Int32.ofInt y else Int32.ofInt x) = Int32.ofInt (if y < x then y else x) by simp only [fx_lt q2 q1, apply_ite Int32.ofInt]]
          exact K
        · cases hn
      next => cases hs
    next => cases hs
  all_goals cases hs
end FXS
end
section
/-! calls: a run of the small machine is a run of the real one, and gives each method's contract -/
def fx_rt (t : Nat) : Option FieldType := match t with
  | 1 => some .int
  | 2 => some .boolean
  | 3 => some .char
  | _ => none
def fx_end (b : ByteArray) (pc t : Nat) (r : Option fx_V) : Prop := match r with
  | none => decode b pc = .ok (.return_, 1) ∧ t = 0
  | some (.inl x) => decode b pc = .ok (.ireturn, 1) ∧ (t = 1 ∨ (t = 2 ∧ (x = 0 ∨ x = 1)) ∨ (t = 3 ∧ 0 ≤ x ∧ x < 65536))
  | _ => False
/-- the links to private members of a nest mate: they are handed down from call to call -/
abbrev fx_N : Type := List (String × Nat × MethodName × String)
def fx_NW (NW : fx_N) (U : State) : Prop := ∀ q ∈ NW, va_Nw (.methodLinkNest q.1 q.2.1 q.2.2.1 q.2.2.2) U
theorem fx_NW.warm {NW : fx_N} {s U : State} (hW : s.WarmedH U.vm) (h : fx_NW NW s) : fx_NW NW U := fun q hq => va_Nw.warmM hW (h q hq)
theorem fx_NW.same {NW : fx_N} {u U : State} (hv : u.vm = U.vm) (h : fx_NW NW u) : fx_NW NW U := fun q hq => va_Nw.same rfl hv (h q hq)
def fx_PW (NW : fx_N) (D : va_G) (cl : List vw_C) (tys : List (ClassId × FieldType)) (ad : Nat → Nat) (cA : Nat → ClassId) (SH : List fx_S) (Lx : Nat) (MX : Nat → Int) (M : fx_M) (U : State) : Prop :=
  va_P D cl (fx_wl ad cA SH M) U.heap ∧ va_K D cl tys U ∧ va_D (fx_A ad SH.length) (fx_wl ad cA SH M) ∧ fx_X ad SH Lx MX (fx_A ad SH.length) U ∧ fx_NW NW U
def fx_Q (D : va_G) (cl : List vw_C) (ad : Nat → Nat) (cA : Nat → ClassId) (SH : List fx_S) (r : Option fx_V) (M' : fx_M) : Array Value → State → Outcome → State → Prop := fun _ st oc t =>
  oc = .returned (r.map (fx_g ad)) ∧ va_P D cl (fx_wl ad cA SH M') t.heap ∧ va_F (fx_A ad SH.length) st t
def fx_ws (TG : List Jvm.Cond) (G : fx_G) (yM : Nat → MethodName) (bM : Nat → ByteArray) (k : Nat) : List Jvm.Cond := Jvm.Cond.code (yM k) (bM k) (G k).2.1 (fx_rt (G k).2.2.1) :: TG
def fx_rm (RO : Nat → Nat × Nat) (k : Nat) : Room := { frames := (RO k).1, cells := 0, slots := 0, locals := (RO k).2 }
/-- what is known of a method that is called -/
def fx_MF (TG : List Jvm.Cond) (cl : List vw_C) (G : fx_G) (yM : Nat → MethodName) (bM : Nat → ByteArray) (PC : Nat → List Nat) (k : Nat) : Prop :=
  plainName (yM k).cls = true ∧ (PC k).getD 0 0 = 0 ∧ Jvm.Cond.code (yM k) (bM k) (G k).2.1 (fx_rt (G k).2.2.1) ∈ TG ∧ Jvm.Cond.initialized (yM k).cls ∈ TG ∧ ((yM k).cls ≠ "java/lang/invoke/MethodHandle" ∧ (yM k).cls ≠ "java/lang/invoke/VarHandle") ∧
  (match (G k).2.2.2 with
    | some ci => (parseMethodDescriptor (yM k).desc).map (fun d => d.parameters.length) = some ((G k).1 - 1) ∧ Jvm.Cond.instanceMethod (yM k) ∈ TG ∧ Jvm.Cond.selects (yM k).cls (yM k) (yM k) ∈ TG ∧ ∃ T N, cl[ci]? = some ((yM k).cls, T, N)
    | none => (parseMethodDescriptor (yM k).desc).map (fun d => d.parameters.length) = some (G k).1 ∧ Jvm.Cond.static (yM k) ∈ TG)
/-- the program's data and the tables' words -/
def fx_PO (NW : fx_N) (TG : List Jvm.Cond) (cl : List vw_C) (C : Nat → List Instr) (G : fx_G) (yM : Nat → MethodName) (bM : Nat → ByteArray) (PC : Nat → List Nat) (RO : Nat → Nat × Nat) (CT CL : Nat → List (Nat × Int)) (FT PT : Nat → List (Nat × Nat × Nat)) (LT : Nat → List (Nat × Nat)) : Prop :=
  (∀ w ∈ TG, goodWord w = true) ∧ fx_Cl TG cl ∧
  (∀ (j i : Nat) (mm : Instr), (C j)[i]? = some mm → fx_Tab (yM j).cls TG cl (CT j) (CL j) (FT j) (PT j) (LT j) ∧ ∃ (o : Instr) (len : Nat), decode (bM j) ((PC j).getD i 0) = .ok (o, len) ∧ (PC j).getD (i + 1) 0 = (PC j).getD i 0 + len ∧
    fx_nrm (CT j) (CL j) (FT j) (PT j) (LT j) (PC j) G RO (RO j).1 (RO j).2 ((PC j).getD i 0) len mm o = true) ∧
  (∀ (j idx k : Nat), (idx, k) ∈ LT j → k < 1000000 → fx_MF TG cl G yM bM PC k ∧ (Jvm.Cond.methodLink (yM j).cls idx (yM k) ∈ TG ∨ ((G k).2.2.2 = none ∧ ∃ host, ((yM j).cls, idx, yM k, host) ∈ NW)))
theorem fx_goodIn {TG ws : List Jvm.Cond} (hg : ∀ w ∈ TG, goodWord w = true) (h : ∀ w ∈ ws, w ∈ TG) : GoodIn TG ws := fun w hw => ⟨h w hw, good_of_word (hg w (h w hw))⟩
theorem fx_fl_g {ad : Nat → Nat} (vs : List fx_V) : (lg_sl (vs.map (fx_g ad))).length = (fx_fl vs).length := by
  induction vs with
  | nil => rfl
  | cons v t ih =>
    have h1 : lg_sl ((v :: t).map (fx_g ad)) = (if (fx_g ad v).category = 2 then [Slot.val (fx_g ad v), .second] else [.val (fx_g ad v)]) ++ lg_sl (t.map (fx_g ad)) := rfl
    have h2 : fx_fl (v :: t) = fx_f1 v ++ fx_fl t := rfl
    rw [h1, h2, List.length_append, List.length_append, ih, fx_ct_g]
    rcases v with x | x | x <;> simp [fx_ct, fx_f1]
theorem fx_ini_len {n : Nat} {vs : List fx_V} (h : (fx_fl vs).length ≤ n) : (fx_ini n vs).length = n := by
  simp only [fx_ini, List.length_append, List.length_replicate]
  omega
theorem fx_fl_args {ad : Nat → Nat} : ∀ (vs : List fx_V) (o i : Nat) (v : fx_V) (w : Value), (fx_fl vs)[i]? = some v → fx_gl ad v = some w → (o + i, w) ∈ lv_args o (vs.map (fx_g ad))
  | [], o, i, v, w, h, _ => by simp [fx_fl] at h
  | u :: t, o, i, v, w, h, hg => by
    have h2 : fx_fl (u :: t) = fx_f1 u ++ fx_fl t := rfl
    have h3 : lv_args o ((u :: t).map (fx_g ad)) = (o, fx_g ad u) :: lv_args (if (fx_g ad u).category = 2 then o + 2 else o + 1) (t.map (fx_g ad)) := rfl
    rw [h2] at h
    rw [h3, fx_ct_g]
    by_cases hc : fx_ct u = 2
    · rcases u with x | x | x
      · simp [fx_ct] at hc
      · rw [if_pos hc]
        simp only [fx_f1] at h
        match i, h with
        | 0, h =>
          simp only [List.cons_append, List.getElem?_cons_zero, Option.some.injEq] at h
          subst h
          rw [fx_gl_some hg]
          exact List.mem_cons_self
        | 1, h =>
          simp only [List.cons_append, List.nil_append, List.getElem?_cons_succ, List.getElem?_cons_zero, Option.some.injEq] at h
          subst h
          simp [fx_gl] at hg
        | i + 2, h =>
          simp only [List.cons_append, List.nil_append, List.getElem?_cons_succ] at h
          have := fx_fl_args t (o + 2) i v w h hg
          rw [show o + (i + 2) = o + 2 + i by omega]
          exact List.mem_cons_of_mem _ this
      · simp [fx_ct] at hc
    · rw [if_neg hc]
      have h4 : (u :: fx_fl t)[i]? = some v := by
        rcases u with x | x | x
        · exact h
        · exact absurd rfl hc
        · exact h
      match i, h4 with
      | 0, h4 =>
        simp only [List.getElem?_cons_zero, Option.some.injEq] at h4
        subst h4
        rw [fx_gl_some hg]
        exact List.mem_cons_self
      | i + 1, h4 =>
        simp only [List.getElem?_cons_succ] at h4
        have := fx_fl_args t (o + 1) i v w h4 hg
        rw [show o + (i + 1) = o + 1 + i by omega]
        exact List.mem_cons_of_mem _ this
theorem fx_ini_prs {ad : Nat → Nat} {n : Nat} {vs : List fx_V} : ∀ q ∈ fx_prs ad (fx_ini n vs), q ∈ lv_args 0 (vs.map (fx_g ad)) := by
  intro q hq
  obtain ⟨v, hv, hg⟩ := fx_prs_mem.mp hq
  unfold fx_ini at hv
  by_cases hl : q.1 < (fx_fl vs).length
  · rw [List.getElem?_append_left hl] at hv
    have := fx_fl_args vs 0 q.1 v q.2 hv hg
    rwa [Nat.zero_add] at this
  · rw [List.getElem?_append_right (by omega)] at hv
    have hv2 := List.mem_of_getElem? hv
    rw [List.mem_replicate] at hv2
    rw [hv2.2] at hg
    simp [fx_gl] at hg
section FXC
variable {p : Program} {l : Launch} {e : Env} {R : Room} {s : State} {m : MethodId} {args : Array Value} {below : List Frame} {meth : Method} {c : Code} {H : Heap} {locs : List Loc} {cells slots : Nat} {Q : State → Prop}
variable {D : va_G} {cl : List vw_C} {tys : List (ClassId × FieldType)} {ad : Nat → Nat} {cA : Nat → ClassId} {SH : List fx_S} {Lx : Nat} {MX : Nat → Int} {A : Nat → Prop}
variable {NW : fx_N} {TG : List Jvm.Cond} {C : Nat → List Instr} {G : fx_G} {yM : Nat → MethodName} {bM : Nat → ByteArray} {PC : Nat → List Nat} {RO : Nat → Nat × Nat} {CT CL : Nat → List (Nat × Int)} {FT PT : Nat → List (Nat × Nat × Nat)} {LT : Nat → List (Nat × Nat)}
/-- behind a call -/
theorem fx_cont {pc : Nat} {L : Array Slot} {st0 rest : List Value} {M M' : fx_M} {r : Option fx_V} {a : Array Value} (hr : va_Run p l e R s m args below meth c H locs cells slots 0 0 (F0 m pc L st0) rest (fx_Q D cl ad cA SH r M' a) (fx_A ad SH.length)) (hW : fx_Wd D cl ad cA SH s.heap A M H locs)
    (kk : ∀ (H1 : Heap) (locs1 : List Loc), fx_Wd D cl ad cA SH s.heap A M' H1 locs1 → W p l e R s m args below meth c H1 locs1 cells slots Q (F0 m (pc + 3) L ((r.map (fx_g ad)).toList ++ rest))) : W p l e R s m args below meth c H locs cells slots Q (F0 m pc L st0) := by
  intro T hT X
  obtain ⟨v, st₀, t, T', Lc, h0, X', hL, e1, e2, ⟨hv, hp, hz, hk⟩, st⟩ := hr T hT X
  cases hv
  obtain ⟨hP, hD, hS⟩ := hW
  have hAA : ∀ q, fx_A ad SH.length q → A q := fun q h => fx_A_of hD h
  rw [h0] at hz hk
  have hS1 : va_S A s.heap T'.heap (locs ++ Lc) := by
    refine ⟨Nat.le_trans hS.1 (by rw [e1]; exact hz), fun q h1 h2 => ?_, fun q hq => ?_⟩
    · rw [e1, hk q (Nat.lt_of_lt_of_le h1 hS.1) (fun z => h2 (hAA q z))]
      exact hS.2.1 q h1 h2
    · rcases List.mem_append.mp hq with h | h
      · exact hS.2.2 q h
      · exact hAA _ (hL q h)
  obtain ⟨t2, a1, b1⟩ := kk T'.heap (locs ++ Lc) ⟨by rw [e1]; exact hp, fx_D_any hD, hS1⟩ T' rfl X'
  exact ⟨t2, st t2 a1, b1⟩
theorem fx_X_moved {u U : State} (hvm : u.vm.Alike U.vm) (hh : U.heap = u.heap) (h : fx_X ad SH Lx MX A u) : fx_X ad SH Lx MX A U := by
  intro h0
  obtain ⟨h1, h2, h3, h4⟩ := h h0
  exact ⟨h1, by rw [hh]; exact va_X.moved hvm h2, by rw [hh]; exact h3, h4⟩
/-- the script lies where it lay -/
theorem fx_X_at {U : State} (hvm : s.vm.Alike U.vm) (hU : U.heap = H) (hS : va_S A s.heap H locs) (hAA : ∀ q, fx_A ad SH.length q → A q) (h : fx_X ad SH Lx MX A s) : fx_X ad SH Lx MX (fx_A ad SH.length) U := by
  intro h0
  obtain ⟨h1, h2, h3, h4⟩ := h h0
  exact ⟨h1, by rw [hU]; exact va_X.moved hvm (h2.kept (hS.2.1 _ h3 h4)), by rw [hU]; exact Nat.lt_of_lt_of_le h3 hS.1, fun z => h4 (hAA _ z)⟩
theorem fx_blind {vs : List Value} {M : fx_M} : FrameBlind (va_Pc vs (fx_PW NW D cl tys ad cA SH Lx MX M)) := by
  intro a U g mk h
  obtain ⟨h1, h2, h3, h4, h5, h6⟩ := h
  exact ⟨h1, h2, va_K.moved (u := U) (U := U.calling g mk a) (Vm.Alike.refl U.vm) h3, h4, fx_X_moved (u := U) (U := U.calling g mk a) (Vm.Alike.refl U.vm) rfl h5, fx_NW.same (u := U) (U := U.calling g mk a) rfl h6⟩
theorem fx_pre {vs : List Value} {M : fx_M} (hK : va_K D cl tys s) (hW : fx_Wd D cl ad cA SH s.heap A M H locs) (hX : fx_X ad SH Lx MX A s) (hN : fx_NW NW s) : ∀ U : State, U.heap = H → s.WarmedH U.vm → va_Pc vs (fx_PW NW D cl tys ad cA SH Lx MX M) vs.toArray U := by
  intro U hU hw
  obtain ⟨hP, hD, hS⟩ := hW
  exact ⟨rfl, by rw [hU]; exact hP, va_K.moved hw.alike hK, fx_D_self hD, fx_X_at hw.alike hU hS (fun q h => fx_A_of hD h) hX, hN.warm hw⟩
theorem fx_end_of {b : ByteArray} {pc t : Nat} {st : List fx_V} {M M' : fx_M} {r : Option fx_V} (hd : decode b pc = .ok (.ireturn, 1)) (h : fx_ret t st M = some (r, M')) : fx_end b pc t r ∧ M' = M ∧ st = r.toList := by
  unfold fx_ret at h
  split at h
  next x =>
    split at h
    next hc => cases h; exact ⟨⟨hd, hc⟩, rfl, rfl⟩
    next => cases h
  next => cases h
def fx_SIM (NW : fx_N) (D : va_G) (cl : List vw_C) (tys : List (ClassId × FieldType)) (cA : Nat → ClassId) (ad : Nat → Nat) (SH : List fx_S) (Lx : Nat) (MX : Nat → Int) (TG : List Jvm.Cond) (C : Nat → List Instr) (G : fx_G) (yM : Nat → MethodName) (bM : Nat → ByteArray) (PC : Nat → List Nat) (RO : Nat → Nat × Nat) (l : Launch) (n : Nat) : Prop :=
  ∀ (j i : Nat) (ls st : List fx_V) (M : fx_M) (r : Option fx_V) (M' : fx_M), fx_ex C G SH Lx MX n j i ls st M = some (r, M') →
  ∀ {p : Program} {e : Env} {R : Room} {s : State} {m : MethodId} {args : Array Value} {below : List Frame} {meth : Method} {c : Code} {H : Heap} {locs : List Loc} {cells slots : Nat} {Q : State → Prop} {A : Nat → Prop} {L : Array Slot},
  p.tables.exec = Jvm.exec → c.code = bM j → c.maxLocals = ls.length → s.vm.findClass (yM j).cls = some m.cls → (∀ w ∈ TG, w.before args s = true) → (RO j).1 ≤ R.frames → (RO j).2 ≤ R.locals → (cells ≤ R.cells ∧ slots ≤ R.slots) → va_K D cl tys s → fx_Wd D cl ad cA SH s.heap A M H locs → fx_X ad SH Lx MX A s → fx_NW NW s → lv_has L ls.length (fx_prs ad ls) →
  (∀ (H' : Heap) (locs' : List Loc) (L' : Array Slot) (pc' : Nat), fx_Wd D cl ad cA SH s.heap A M' H' locs' → fx_end (bM j) pc' (G j).2.2.1 r → W p l e R s m args below meth c H' locs' cells slots Q (F0 m pc' L' (r.toList.map (fx_g ad)))) →
  W p l e R s m args below meth c H locs cells slots Q (F0 m ((PC j).getD i 0) L (st.map (fx_g ad)))
set_option maxHeartbeats 4000000 in
theorem fx_con {n k : Nat} {vs : List fx_V} {M M' : fx_M} {r : Option fx_V} (hn : fx_SIM NW D cl tys cA ad SH Lx MX TG C G yM bM PC RO l n) (hk : fx_MF TG cl G yM bM PC k) (hlen : (fx_fl vs).length ≤ (G k).2.1) (h : fx_ex C G SH Lx MX n k 0 (fx_ini (G k).2.1 vs) [] M = some (r, M')) :
    Met l (yM k) (fx_ws TG G yM bM k) (fx_rm RO k) (va_Pc (vs.map (fx_g ad)) (fx_PW NW D cl tys ad cA SH Lx MX M)) (fx_Q D cl ad cA SH r M') 0 0 (fx_A ad SH.length) := by
  refine Met.ofW (cc := bM k) (maxL := (G k).2.1) (ret := fx_rt (G k).2.2.1) hk.1 rfl ?_
  intro p e s m args below meth c s₁ B hml hv
  obtain ⟨rfl, hP, hK, hD, hX, hN⟩ := hv
  have hx := B.exec
  have hb := B.bytes
  have hr := B.returns
  have hts0 := atoms_spec (ws := fx_ws TG G yM bM k) B.pre
  have hts : ∀ w ∈ TG, w.before (vs.map (fx_g ad)).toArray s = true := fun w hw => hts0 w (List.mem_cons_of_mem _ hw)
  have hown : s.vm.findClass (yM k).cls = some m.cls := findClass_of_methodNamed B.named
  have hlocks := B.notSynchronized
  have hl := lv_entry (vs.map (fx_g ad)) (n := (G k).2.1) (by rw [fx_fl_g]; exact hlen)
  rw [lg_entry_eq]
  generalize (lg_sl (vs.map (fx_g ad)) ++ List.replicate ((G k).2.1 - (lg_sl (vs.map (fx_g ad))).length) Slot.unset).toArray = L at hl ⊢
  have hil := fx_ini_len hlen
  have hl' : lv_has L (fx_ini (G k).2.1 vs).length (fx_prs ad (fx_ini (G k).2.1 vs)) := by
    rw [hil]
    exact fx_lh_sub hl fx_ini_prs
  have key := hn k 0 _ _ M r M' h (p := p) (e := e) (R := (headSpec (fx_ws TG G yM bM k) (fx_rm RO k)).room) (s := s) (m := m) (args := (vs.map (fx_g ad)).toArray) (below := below) (meth := meth) (c := c) (H := s.heap) (locs := []) (cells := 0) (slots := 0)
    (Q := MQ below (fx_Q D cl ad cA SH r M') (vs.map (fx_g ad)).toArray s 0 0 (fx_A ad SH.length)) (A := fx_A ad SH.length) (L := L) hx hb (hml.trans hil.symm) hown hts (Nat.le_refl _) (Nat.le_refl _) ⟨Nat.zero_le _, Nat.zero_le _⟩ hK ⟨hP, hD, va_S.rf⟩ hX hN hl' ?_
  · rw [hk.2.1] at key
    exact key
  · intro H' locs' L' pc' hW' he
    have hq : ∀ (v : Option Value), v = r.map (fx_g ad) → ∀ t : State, t.heap = H' → s.WarmedH t.vm → fx_Q D cl ad cA SH r M' (vs.map (fx_g ad)).toArray s (.returned v) t := fun v hv t ht hw => ⟨by rw [hv], by rw [ht]; exact hW'.1, hW'.2.2.F ht⟩
    rcases r with _ | x | x | x
    · obtain ⟨hd, ht⟩ := he
      rw [ht] at hr
      exact W.vret hx hb hr (hq _ rfl) hW'.2.2.2.2 hd
    · obtain ⟨hd, ht⟩ := he
      rcases ht with ht | ⟨ht, hv⟩ | ⟨ht, h0, h1⟩
      · rw [ht] at hr
        exact W.iret hx hb hr (hq _ rfl) hW'.2.2.2.2 hd
      · rw [ht] at hr
        exact W.zret hx hb hr (by rcases hv with rfl | rfl <;> decide) (hq _ rfl) hW'.2.2.2.2 hd
      · rw [ht] at hr
        exact W.zret hx hb hr (by rw [fx_char h0 h1]; exact (pk_charN (by omega)).1) (hq _ rfl) hW'.2.2.2.2 hd
    · exact he.elim
    · exact he.elim
theorem fx_rcv_some {ci : Nat} {vs : List fx_V} (h : fx_rcv SH (some ci) vs = true) : ∃ kr As fs, vs = .inr (.inr (some kr)) :: As ∧ SH[kr]? = some (.inr (.inl (ci, fs))) := by
  unfold fx_rcv at h
  split at h
  next h0 => cases h0
  next ci' h0 =>
    cases h0
    split at h
    next kr As =>
      split at h
      next cj fs hs =>
        rw [of_decide_eq_true h] at hs
        exact ⟨kr, As, fs, rfl, hs⟩
      next => cases h
    next => cases h
set_option maxHeartbeats 8000000 in
theorem fx_sim (hPO : fx_PO NW TG cl C G yM bM PC RO CT CL FT PT LT) {OC : String} (hty : fx_Ty tys cA OC) (l : Launch) : ∀ n, fx_SIM NW D cl tys cA ad SH Lx MX TG C G yM bM PC RO l n := by
  obtain ⟨hgood, hCl, hI, hLk⟩ := hPO
  intro n
  induction n with
  | zero => intro j i ls st M r M' h; cases h
  | succ n ih =>
    intro j i ls st M r M' h p e R s m args below meth c H locs cells slots Q A L hx hb hml hown hts hrf hrl hcs hK hW hX hN hl fin
    unfold fx_ex at h
    cases hmm : (C j)[i]? with
    | none => rw [hmm] at h; cases h
    | some mm =>
      rw [hmm] at h
      obtain ⟨hTab, o, len, hd, hpc1, hn⟩ := hI j i mm hmm
      have step : ∀ (i' : Nat) (ls' st' : List fx_V) (M1 : fx_M), fx_step SH Lx MX mm i ls st M = some (i', ls', st', M1) → fx_ex C G SH Lx MX n j i' ls' st' M1 = some (r, M') → W p l e R s m args below meth c H locs cells slots Q (F0 m ((PC j).getD i 0) L (st.map (fx_g ad))) := by
        intro i' ls' st' M1 hs hr
        refine fx_step_W hx hb hml hown hts hTab hCl hty hrf hrl hcs hK hW hX hl rfl hd hn hpc1 hs (fun H' locs' L' hW' hl' hlen' => ?_)
        exact ih j i' ls' st' M1 r M' hr hx hb (hml.trans hlen'.symm) hown hts hrf hrl hcs hK hW' hX hN (by rw [hlen']; exact hl') fin
      split at h
      next heq =>
        cases heq
        simp only [fx_nrm, decide_eq_true_eq] at hn
        obtain ⟨rfl, rfl⟩ := hn
        obtain ⟨he, rfl, rfl⟩ := fx_end_of hd h
        exact fin H locs L _ hW he
      next heq =>
        cases heq
        simp only [fx_nrm, decide_eq_true_eq] at hn
        obtain ⟨rfl, rfl⟩ := hn
        split at h
        next =>
          split at h
          next ht => cases h; exact fin H locs L _ hW ⟨hd, ht⟩
          next => cases h
        next => cases h
      next k heq =>
        cases heq
        split at h
        next hc =>
          obtain ⟨hc1, hc2, hc3⟩ := hc
          split at h
          next r1 M1 hex =>
            simp only [fx_nrm] at hn
            split at hn
            next x =>
              simp only [decide_eq_true_eq] at hn
              obtain ⟨rfl, hk6, hxk, hrec, hfr, hlo⟩ := hn
              obtain ⟨hMF, hlink⟩ := hLk _ _ _ hxk hk6
              have hcon := fx_con (l := l) ih hMF hc3 hex
              obtain ⟨f1, f2, f3, f4, f5, f6⟩ := hMF
              rw [hrec] at f6
              obtain ⟨f7, f8⟩ := f6
              have hst : st.map (fx_g ad) = ((st.take (G k).1).reverse.map (fx_g ad)).reverse ++ (st.drop (G k).1).map (fx_g ad) := by
                rw [← List.map_reverse, List.reverse_reverse, ← List.map_append, List.take_append_drop]
              have hrun : va_Run p l e R s m args below meth c H locs cells slots 0 0 (F0 m ((PC j).getD i 0) L (st.map (fx_g ad))) ((st.drop (G k).1).map (fx_g ad)) (fx_Q D cl ad cA SH r1 M1 ((st.take (G k).1).reverse.map (fx_g ad)).toArray) (fx_A ad SH.length) := by
                rcases hlink with hlink | ⟨-, host, hlink⟩
                · exact va_runS (Ts := TG) ⟨hx, hb, hml, hown, hts⟩ hcon (va_cwS (G k).1 hts (fx_goodIn hgood (by intro w hw; simp only [va_wsS, fx_ws, List.cons_append, List.nil_append, List.mem_cons] at hw; rcases hw with rfl | rfl | rfl | rfl | hw <;> assumption)) rfl rfl rfl ⟨f5.1, f5.2, f7⟩ ⟨Nat.le_trans hfr hrf, Nat.le_trans hlo hrl⟩) ⟨fx_blind, fx_pre hK hW hX hN⟩ rfl (by simp; omega) hl.1 hst (lv_room (by rw [fx_cs_g]; exact hc2)) hd hcs
                · exact va_runSN (Ts := TG) ⟨hx, hb, hml, hown, hts⟩ hcon ⟨va_cnB (G k).1 hts (fx_goodIn hgood (by intro w hw; simp only [fx_ws, List.mem_cons] at hw; rcases hw with rfl | hw <;> assumption)) rfl rfl rfl (hN _ hlink) (hts _ f4) ⟨f5.1, f5.2, f7⟩ ⟨Nat.le_trans hfr hrf, Nat.le_trans hlo hrl⟩, hts _ f8, trivial⟩ ⟨fx_blind, fx_pre hK hW hX hN⟩ rfl (by simp; omega) hl.1 hst (lv_room (by rw [fx_cs_g]; exact hc2)) hd hcs
              refine fx_cont hrun hW (fun H1 locs1 hW1 => ?_)
              have K := ih j (i + 1) ls _ M1 r M' h hx hb hml hown hts hrf hrl hcs hK hW1 hX hN hl fin
              rw [hpc1, List.map_append] at K
              rcases r1 with _ | v <;> exact K
            next => cases hn
          next => cases h
        next => cases h
      next k heq =>
        cases heq
        split at h
        next hc =>
          obtain ⟨hc1, hc2, hc3, hc4⟩ := hc
          split at h
          next r1 M1 hex =>
            simp only [fx_nrm] at hn
            split at hn
            next x =>
              simp only [decide_eq_true_eq] at hn
              obtain ⟨rfl, hk6, hxk, hrec, hn1, hfr, hlo⟩ := hn
              obtain ⟨hMF, hlink⟩ := hLk _ _ _ hxk hk6
              have hcon := fx_con (l := l) ih hMF hc3 hex
              obtain ⟨f1, f2, f3, f4, f5, f6⟩ := hMF
              obtain ⟨ci, hci⟩ := Option.isSome_iff_exists.mp hrec
              rw [hci] at hc4 f6
              have hst : st.map (fx_g ad) = ((st.take (G k).1).reverse.map (fx_g ad)).reverse ++ (st.drop (G k).1).map (fx_g ad) := by
                rw [← List.map_reverse, List.reverse_reverse, ← List.map_append, List.take_append_drop]
              have hvl : (st.take (G k).1).reverse.length = (G k).1 := by simp; omega
              generalize (st.take (G k).1).reverse = vs at hc3 hc4 hex hcon hst hvl
              obtain ⟨kr, As, fs, rfl, hSHk⟩ := fx_rcv_some hc4
              obtain ⟨f7, f8, f9, T0, N0, hcl0⟩ := f6
              rcases hlink with hlink | ⟨hno, -⟩
              · have hst2 : st.map (fx_g ad) = (As.map (fx_g ad)).reverse ++ .ref (ad kr) :: (st.drop (G k).1).map (fx_g ad) := by
                  rw [hst]
                  simp [fx_g]
                have hrun : va_Run p l e R s m args below meth c H locs cells slots 0 0 (F0 m ((PC j).getD i 0) L (st.map (fx_g ad))) ((st.drop (G k).1).map (fx_g ad)) (fx_Q D cl ad cA SH r1 M1 (Value.ref (ad kr) :: As.map (fx_g ad)).toArray) (fx_A ad SH.length) := by
                  refine va_runV (Ts := TG) (b := ad kr) ⟨hx, hb, hml, hown, hts⟩ hcon (cwV ((G k).1 - 1) hts (fx_goodIn hgood (by intro w hw; simp only [wsV, fx_ws, List.cons_append, List.nil_append, List.mem_cons] at hw; rcases hw with rfl | rfl | rfl | rfl | rfl | hw <;> assumption)) rfl rfl rfl ⟨rfl, f5.1, f5.2, f7⟩ ⟨Nat.le_trans hfr hrf, Nat.le_trans hlo hrl⟩) ⟨fx_blind, ?_, fx_pre hK hW hX hN⟩ rfl ?_ hl.1 hst2 (lv_room (by rw [fx_cs_g]; exact hc2)) hd hcs
                  · exact va_recv (q0 := kr) hK hW.1 hcl0 (fx_wl_get hSHk)
                  · simp only [List.length_map]
                    simp only [List.length_cons] at hvl
                    omega
                refine fx_cont hrun hW (fun H1 locs1 hW1 => ?_)
                have K := ih j (i + 1) ls _ M1 r M' h hx hb hml hown hts hrf hrl hcs hK hW1 hX hN hl fin
                rw [hpc1, List.map_append] at K
                rcases r1 with _ | v <;> exact K
              · rw [hci] at hno
                cases hno
            next => cases hn
          next => cases h
        next => cases h
      next _ _ _ _ _ heq =>
        cases heq
        split at h
        next i' ls' st' M1 hs => exact step i' ls' st' M1 hs h
        next => cases h
      next heq => cases heq
end FXC
end
section
/-! The program as data: written by gen.py out of the Statement (the bytes, the words) -/
abbrev fd_NW : fx_N := [("FoldedStrips$Strip", 48, ⟨"FoldedStrips", "isPanel", "(I)Z"⟩, "FoldedStrips"), ("FoldedStrips$Strip", 38, ⟨"FoldedStrips", "placeOf", "(II)I"⟩, "FoldedStrips"), ("FoldedStrips$Strip", 51, ⟨"FoldedStrips", "isEnd", "(I)Z"⟩, "FoldedStrips"), ("FoldedStrips$Strip", 54, ⟨"FoldedStrips", "upperEdge", "(I)I"⟩, "FoldedStrips"), ("FoldedStrips$Strip", 27, ⟨"FoldedStrips", "isPlace", "(I)Z"⟩, "FoldedStrips"), ("FoldedStrips$Strip", 60, ⟨"FoldedStrips", "lowerEdge", "(I)I"⟩, "FoldedStrips"), ("FoldedStrips$Strip", 45, ⟨"FoldedStrips", "neighbourOf", "(I)I"⟩, "FoldedStrips"), ("FoldedStrips$Strip", 35, ⟨"FoldedStrips", "panelOf", "(I)I"⟩, "FoldedStrips"), ("FoldedStrips$Lines", 81, ⟨"FoldedStrips", "isPlace", "(I)Z"⟩, "FoldedStrips"), ("FoldedStrips$Lines", 84, ⟨"FoldedStrips", "panelOf", "(I)I"⟩, "FoldedStrips"), ("FoldedStrips$Lines", 61, ⟨"FoldedStrips", "neighbourOf", "(I)I"⟩, "FoldedStrips"), ("FoldedStrips$Slots", 22, ⟨"FoldedStrips", "isSlot", "(I)Z"⟩, "FoldedStrips")]
def fd_TG : List Jvm.Cond := lw_tbl.filter goodWord
def fd_R0 : String := "FoldedStrips"
def fd_T0 : u_T := fun k => match k with
  | 0 => ("FoldedStrips", "strip", "LFoldedStrips$Strip;", true)
  | 1 => ("FoldedStrips", "trial", "LFoldedStrips$Strip;", true)
  | 2 => ("FoldedStrips", "lines", "LFoldedStrips$Lines;", true)
  | 3 => ("FoldedStrips", "pad", "LFoldedStrips$Pad;", true)
  | 4 => ("FoldedStrips", "history", "LFoldedStrips$History;", true)
  | _ => ("FoldedStrips", "slots", "LFoldedStrips$Slots;", true)
def fd_ty0 : Nat → FieldType := fun k => match k with
  | 0 => .object "FoldedStrips$Strip"
  | 1 => .object "FoldedStrips$Strip"
  | 2 => .object "FoldedStrips$Lines"
  | 3 => .object "FoldedStrips$Pad"
  | 4 => .object "FoldedStrips$History"
  | _ => .object "FoldedStrips$Slots"
def fd_R1 : String := "FoldedStrips$History"
def fd_T1 : u_T := fun k => match k with
  | 0 => ("FoldedStrips$History", "states", "[LFoldedStrips$Strip;", true)
  | 1 => ("FoldedStrips$History", "size", "I", false)
  | _ => ("FoldedStrips$History", "next", "I", false)
def fd_ty1 : Nat → FieldType := fun k => match k with
  | 0 => .array (.object "FoldedStrips$Strip")
  | 1 => .int
  | _ => .int
def fd_R2 : String := "FoldedStrips$Lines"
def fd_T2 : u_T := fun k => match k with
  | 0 => ("FoldedStrips$Lines", "size", "I", false)
  | 1 => ("FoldedStrips$Lines", "lineOf", "[I", true)
  | 2 => ("FoldedStrips$Lines", "strokes", "[I", true)
  | 3 => ("FoldedStrips$Lines", "panelSets", "[I", true)
  | 4 => ("FoldedStrips$Lines", "handSets", "[I", true)
  | 5 => ("FoldedStrips$Lines", "lesserEnds", "[I", true)
  | 6 => ("FoldedStrips$Lines", "greaterEnds", "[I", true)
  | _ => ("FoldedStrips$Lines", "looped", "[Z", true)
def fd_ty2 : Nat → FieldType := fun k => match k with
  | 0 => .int
  | 1 => .array .int
  | 2 => .array .int
  | 3 => .array .int
  | 4 => .array .int
  | 5 => .array .int
  | 6 => .array .int
  | _ => .array .boolean
def fd_R3 : String := "FoldedStrips$Pad"
def fd_T3 : u_T := fun k => match k with
  | 0 => ("FoldedStrips$Pad", "text", "[C", true)
  | _ => ("FoldedStrips$Pad", "length", "I", false)
def fd_ty3 : Nat → FieldType := fun k => match k with
  | 0 => .array .char
  | _ => .int
def fd_R4 : String := "FoldedStrips$Slots"
def fd_T4 : u_T := fun k => match k with
  | 0 => ("FoldedStrips$Slots", "kept", "[LFoldedStrips$Strip;", true)
  | _ => ("FoldedStrips$Slots", "used", "[Z", true)
def fd_ty4 : Nat → FieldType := fun k => match k with
  | 0 => .array (.object "FoldedStrips$Strip")
  | _ => .array .boolean
def fd_R5 : String := "FoldedStrips$Strip"
def fd_T5 : u_T := fun k => match k with
  | 0 => ("FoldedStrips$Strip", "others", "[I", true)
  | 1 => ("FoldedStrips$Strip", "hands", "[I", true)
  | _ => ("FoldedStrips$Strip", "before", "[I", true)
def fd_ty5 : Nat → FieldType := fun k => match k with
  | 0 => .array .int
  | 1 => .array .int
  | _ => .array .int
def fd_R6 : String := "FoldedStripsModel"
def fd_T6 : u_T := fun k => match k with
  | 0 => ("FoldedStripsModel", "s", "[I", true)
  | 1 => ("FoldedStripsModel", "spare", "[I", true)
  | 2 => ("FoldedStripsModel", "trial", "[I", true)
  | 3 => ("FoldedStripsModel", "before", "[I", true)
  | 4 => ("FoldedStripsModel", "saved", "[I", true)
  | 5 => ("FoldedStripsModel", "isSaved", "[Z", true)
  | 6 => ("FoldedStripsModel", "lineOf", "[I", true)
  | 7 => ("FoldedStripsModel", "strokes", "[I", true)
  | 8 => ("FoldedStripsModel", "loop", "[I", true)
  | 9 => ("FoldedStripsModel", "panels", "[I", true)
  | 10 => ("FoldedStripsModel", "low", "[I", true)
  | 11 => ("FoldedStripsModel", "high", "[I", true)
  | 12 => ("FoldedStripsModel", "read", "[I", true)
  | 13 => ("FoldedStripsModel", "pad", "[C", true)
  | 14 => ("FoldedStripsModel", "lines", "I", false)
  | 15 => ("FoldedStripsModel", "length", "I", false)
  | 16 => ("FoldedStripsModel", "states", "I", false)
  | 17 => ("FoldedStripsModel", "told", "I", false)
  | 18 => ("FoldedStripsModel", "at", "I", false)
  | _ => ("FoldedStripsModel", "used", "I", false)
def fd_ty6 : Nat → FieldType := fun k => match k with
  | 0 => .array .int
  | 1 => .array .int
  | 2 => .array .int
  | 3 => .array .int
  | 4 => .array .int
  | 5 => .array .boolean
  | 6 => .array .int
  | 7 => .array .int
  | 8 => .array .int
  | 9 => .array .int
  | 10 => .array .int
  | 11 => .array .int
  | 12 => .array .int
  | 13 => .array .char
  | 14 => .int
  | 15 => .int
  | 16 => .int
  | 17 => .int
  | 18 => .int
  | _ => .int
abbrev fd_cl : List vw_C := [(fd_R0, fd_T0, 6), (fd_R1, fd_T1, 3), (fd_R2, fd_T2, 8), (fd_R3, fd_T3, 2), (fd_R4, fd_T4, 2), (fd_R5, fd_T5, 3), (fd_R6, fd_T6, 20)]
-- 0: FoldedStrips.draw(II)I
noncomputable abbrev fd_c0 : List Instr := [.iload 1, .invokestatic 1, .ifCond .ne 5, .sipush (-1), .ireturn, .iload 2, .invokestatic 2, .ifCond .ne 10, .sipush (-2), .ireturn, .aload 0, .invokeinterface 0 3, .invokevirtual 58, .sipush (-6), .if_icmp .eq 17, .sipush (-3), .ireturn, .aload 0, .invokeinterface 0 4, .aload 0, .invokeinterface 0 0, .invokevirtual 38, .aload 0, .invokeinterface 0 0, .iload 1, .invokevirtual 78, .aload 0, .invokeinterface 0 0, .iload 1, .iload 2, .invokevirtual 79, .aload 0, .invokeinterface 0 3, .aload 0, .invokeinterface 0 0, .iload 1, .invokevirtual 69, .aload 0, .invokeinterface 0 3, .invokevirtual 70, .aload 0, .invokeinterface 0 0, .iload 1, .invokevirtual 81, .ireturn]
noncomputable abbrev fd_o0 : List (Instr × Nat) := [(.iload_n 1, 1), (.invokestatic 47, 3), (.ifCond .ne 5, 3), (.iconst (-1), 1), (.ireturn, 1), (.iload_n 2, 1), (.invokestatic 51, 3), (.ifCond .ne 6, 3), (.bipush (-2), 2), (.ireturn, 1), (.aload_n 0, 1), (.getfield 29, 3), (.invokevirtual 54, 3), (.bipush (-6), 2), (.if_icmp .eq 6, 3), (.bipush (-3), 2), (.ireturn, 1), (.aload_n 0, 1), (.getfield 36, 3), (.aload_n 0, 1), (.getfield 12, 3), (.invokevirtual 58, 3), (.aload_n 0, 1), (.getfield 12, 3), (.iload_n 1, 1), (.invokevirtual 62, 3), (.aload_n 0, 1), (.getfield 12, 3), (.iload_n 1, 1), (.iload_n 2, 1), (.invokevirtual 66, 3), (.aload_n 0, 1), (.getfield 29, 3), (.aload_n 0, 1), (.getfield 12, 3), (.iload_n 1, 1), (.invokevirtual 70, 3), (.aload_n 0, 1), (.getfield 29, 3), (.invokevirtual 74, 3), (.aload_n 0, 1), (.getfield 12, 3), (.iload_n 1, 1), (.invokevirtual 77, 3), (.ireturn, 1)]
abbrev fd_p0 : List Nat := [0, 1, 4, 7, 8, 9, 10, 13, 16, 18, 19, 20, 23, 26, 28, 31, 33, 34, 35, 38, 39, 42, 45, 46, 49, 50, 53, 54, 57, 58, 59, 62, 63, 66, 67, 70, 71, 74, 75, 78, 81, 82, 85, 86, 89, 90]
-- 1: FoldedStrips.isPanel(I)Z
noncomputable abbrev fd_c1 : List Instr := [.iload 0, .ifCond .lt 7, .iload 0, .sipush 6, .if_icmp .ge 7, .sipush 1, .goto 8, .sipush 0, .ireturn]
noncomputable abbrev fd_o1 : List (Instr × Nat) := [(.iload_n 0, 1), (.ifCond .lt 13, 3), (.iload_n 0, 1), (.bipush 6, 2), (.if_icmp .ge 7, 3), (.iconst 1, 1), (.goto 4, 3), (.iconst 0, 1), (.ireturn, 1)]
abbrev fd_p1 : List Nat := [0, 1, 4, 5, 7, 10, 11, 14, 15, 16]
-- 2: FoldedStrips.isHand(I)Z
noncomputable abbrev fd_c2 : List Instr := [.iload 0, .ifCond .lt 7, .iload 0, .sipush 6, .if_icmp .ge 7, .sipush 1, .goto 8, .sipush 0, .ireturn]
noncomputable abbrev fd_o2 : List (Instr × Nat) := [(.iload_n 0, 1), (.ifCond .lt 13, 3), (.iload_n 0, 1), (.bipush 6, 2), (.if_icmp .ge 7, 3), (.iconst 1, 1), (.goto 4, 3), (.iconst 0, 1), (.ireturn, 1)]
abbrev fd_p2 : List Nat := [0, 1, 4, 5, 7, 10, 11, 14, 15, 16]
-- 3: FoldedStrips.placeOf(II)I
noncomputable abbrev fd_c3 : List Instr := [.iload 0, .sipush 24, .imul, .iload 1, .iadd, .ireturn]
noncomputable abbrev fd_o3 : List (Instr × Nat) := [(.iload_n 0, 1), (.bipush 24, 2), (.imul, 1), (.iload_n 1, 1), (.iadd, 1), (.ireturn, 1)]
abbrev fd_p3 : List Nat := [0, 1, 3, 4, 5, 6, 7]
-- 4: FoldedStrips.isEnd(I)Z
noncomputable abbrev fd_c4 : List Instr := [.iload 0, .ifCond .lt 7, .iload 0, .sipush 24, .if_icmp .ge 7, .sipush 1, .goto 8, .sipush 0, .ireturn]
noncomputable abbrev fd_o4 : List (Instr × Nat) := [(.iload_n 0, 1), (.ifCond .lt 13, 3), (.iload_n 0, 1), (.bipush 24, 2), (.if_icmp .ge 7, 3), (.iconst 1, 1), (.goto 4, 3), (.iconst 0, 1), (.ireturn, 1)]
abbrev fd_p4 : List Nat := [0, 1, 4, 5, 7, 10, 11, 14, 15, 16]
-- 5: FoldedStrips.upperEdge(I)I
noncomputable abbrev fd_c5 : List Instr := [.sipush 2, .iload 0, .imul, .ireturn]
noncomputable abbrev fd_o5 : List (Instr × Nat) := [(.iconst 2, 1), (.iload_n 0, 1), (.imul, 1), (.ireturn, 1)]
abbrev fd_p5 : List Nat := [0, 1, 2, 3, 4]
-- 6: FoldedStrips.isPlace(I)Z
noncomputable abbrev fd_c6 : List Instr := [.iload 0, .ifCond .lt 7, .iload 0, .sipush 144, .if_icmp .ge 7, .sipush 1, .goto 8, .sipush 0, .ireturn]
noncomputable abbrev fd_o6 : List (Instr × Nat) := [(.iload_n 0, 1), (.ifCond .lt 14, 3), (.iload_n 0, 1), (.sipush 144, 3), (.if_icmp .ge 7, 3), (.iconst 1, 1), (.goto 4, 3), (.iconst 0, 1), (.ireturn, 1)]
abbrev fd_p6 : List Nat := [0, 1, 4, 5, 8, 11, 12, 15, 16, 17]
-- 7: FoldedStrips.lowerEdge(I)I
noncomputable abbrev fd_c7 : List Instr := [.sipush 2, .iload 0, .imul, .sipush 1, .iadd, .ireturn]
noncomputable abbrev fd_o7 : List (Instr × Nat) := [(.iconst 2, 1), (.iload_n 0, 1), (.imul, 1), (.iconst 1, 1), (.iadd, 1), (.ireturn, 1)]
abbrev fd_p7 : List Nat := [0, 1, 2, 3, 4, 5, 6]
-- 8: FoldedStrips.join(III)I
noncomputable abbrev fd_c8 : List Instr := [.iload 1, .invokestatic 1, .ifCond .eq 9, .iload 2, .invokestatic 4, .ifCond .eq 9, .iload 3, .invokestatic 4, .ifCond .ne 11, .sipush (-1), .ireturn, .iload 2, .iload 3, .if_icmp .ne 16, .sipush (-2), .ireturn, .aload 0, .invokeinterface 0 0, .iload 1, .iload 2, .invokestatic 3, .invokevirtual 83, .ifCond .ne 30, .aload 0, .invokeinterface 0 0, .iload 1, .iload 3, .invokestatic 3, .invokevirtual 83, .ifCond .eq 32, .sipush (-5), .ireturn, .aload 0, .invokeinterface 0 4, .aload 0, .invokeinterface 0 0, .invokevirtual 38, .aload 0, .invokeinterface 0 0, .iload 1, .iload 2, .iload 3, .invokevirtual 80, .aload 0, .invokeinterface 0 0, .iload 1, .invokevirtual 81, .ireturn]
noncomputable abbrev fd_o8 : List (Instr × Nat) := [(.iload_n 1, 1), (.invokestatic 47, 3), (.ifCond .eq 17, 3), (.iload_n 2, 1), (.invokestatic 81, 3), (.ifCond .eq 10, 3), (.iload_n 3, 1), (.invokestatic 81, 3), (.ifCond .ne 5, 3), (.iconst (-1), 1), (.ireturn, 1), (.iload_n 2, 1), (.iload_n 3, 1), (.if_icmp .ne 6, 3), (.bipush (-2), 2), (.ireturn, 1), (.aload_n 0, 1), (.getfield 12, 3), (.iload_n 1, 1), (.iload_n 2, 1), (.invokestatic 84, 3), (.invokevirtual 88, 3), (.ifCond .ne 18, 3), (.aload_n 0, 1), (.getfield 12, 3), (.iload_n 1, 1), (.iload_n 3, 1), (.invokestatic 84, 3), (.invokevirtual 88, 3), (.ifCond .eq 6, 3), (.bipush (-5), 2), (.ireturn, 1), (.aload_n 0, 1), (.getfield 36, 3), (.aload_n 0, 1), (.getfield 12, 3), (.invokevirtual 58, 3), (.aload_n 0, 1), (.getfield 12, 3), (.iload_n 1, 1), (.iload_n 2, 1), (.iload_n 3, 1), (.invokevirtual 91, 3), (.aload_n 0, 1), (.getfield 12, 3), (.iload_n 1, 1), (.invokevirtual 77, 3), (.ireturn, 1)]
abbrev fd_p8 : List Nat := [0, 1, 4, 7, 8, 11, 14, 15, 18, 21, 22, 23, 24, 25, 28, 30, 31, 32, 35, 36, 37, 40, 43, 46, 47, 50, 51, 52, 55, 58, 61, 63, 64, 65, 68, 69, 72, 75, 76, 79, 80, 81, 82, 85, 86, 89, 90, 93, 94]
-- 9: FoldedStrips.rub(II)I
noncomputable abbrev fd_c9 : List Instr := [.iload 1, .invokestatic 1, .ifCond .eq 6, .iload 2, .invokestatic 4, .ifCond .ne 8, .sipush (-1), .ireturn, .aload 0, .invokeinterface 0 0, .iload 1, .iload 2, .invokestatic 3, .invokevirtual 84, .istore 3, .iload 3, .sipush (-1), .if_icmp .ne 20, .sipush (-5), .ireturn, .aload 0, .invokeinterface 0 4, .aload 0, .invokeinterface 0 0, .invokevirtual 38, .aload 0, .invokeinterface 0 0, .iload 1, .iload 2, .iload 3, .invokevirtual 85, .iload 3, .ireturn]
noncomputable abbrev fd_o9 : List (Instr × Nat) := [(.iload_n 1, 1), (.invokestatic 47, 3), (.ifCond .eq 10, 3), (.iload_n 2, 1), (.invokestatic 81, 3), (.ifCond .ne 5, 3), (.iconst (-1), 1), (.ireturn, 1), (.aload_n 0, 1), (.getfield 12, 3), (.iload_n 1, 1), (.iload_n 2, 1), (.invokestatic 84, 3), (.invokevirtual 95, 3), (.istore_n 3, 1), (.iload_n 3, 1), (.iconst (-1), 1), (.if_icmp .ne 6, 3), (.bipush (-5), 2), (.ireturn, 1), (.aload_n 0, 1), (.getfield 36, 3), (.aload_n 0, 1), (.getfield 12, 3), (.invokevirtual 58, 3), (.aload_n 0, 1), (.getfield 12, 3), (.iload_n 1, 1), (.iload_n 2, 1), (.iload_n 3, 1), (.invokevirtual 98, 3), (.iload_n 3, 1), (.ireturn, 1)]
abbrev fd_p9 : List Nat := [0, 1, 4, 7, 8, 11, 14, 15, 16, 17, 20, 21, 22, 25, 28, 29, 30, 31, 34, 36, 37, 38, 41, 42, 45, 48, 49, 52, 53, 54, 55, 58, 59, 60]
-- 10: FoldedStrips.clear(I)I
noncomputable abbrev fd_c10 : List Instr := [.iload 1, .invokestatic 1, .ifCond .ne 5, .sipush (-1), .ireturn, .aload 0, .invokeinterface 0 0, .iload 1, .invokevirtual 81, .istore 2, .aload 0, .invokeinterface 0 4, .aload 0, .invokeinterface 0 0, .invokevirtual 38, .aload 0, .invokeinterface 0 0, .iload 1, .invokevirtual 78, .iload 2, .ireturn]
noncomputable abbrev fd_o10 : List (Instr × Nat) := [(.iload_n 1, 1), (.invokestatic 47, 3), (.ifCond .ne 5, 3), (.iconst (-1), 1), (.ireturn, 1), (.aload_n 0, 1), (.getfield 12, 3), (.iload_n 1, 1), (.invokevirtual 77, 3), (.istore_n 2, 1), (.aload_n 0, 1), (.getfield 36, 3), (.aload_n 0, 1), (.getfield 12, 3), (.invokevirtual 58, 3), (.aload_n 0, 1), (.getfield 12, 3), (.iload_n 1, 1), (.invokevirtual 62, 3), (.iload_n 2, 1), (.ireturn, 1)]
abbrev fd_p10 : List Nat := [0, 1, 4, 7, 8, 9, 10, 13, 14, 17, 18, 19, 22, 23, 26, 29, 30, 33, 34, 37, 38, 39]
-- 11: FoldedStrips.slide(II)I
noncomputable abbrev fd_c11 : List Instr := [.iload 1, .invokestatic 1, .ifCond .ne 5, .sipush (-1), .ireturn, .iload 2, .sipush (-12), .if_icmp .le 13, .iload 2, .sipush 12, .if_icmp .ge 13, .iload 2, .ifCond .ne 15, .sipush (-2), .ireturn, .aload 0, .invokeinterface 0 0, .iload 1, .iload 2, .invokevirtual 86, .ifCond .ne 23, .sipush (-5), .ireturn, .aload 0, .invokeinterface 0 4, .aload 0, .invokeinterface 0 0, .invokevirtual 38, .aload 0, .invokeinterface 0 0, .iload 1, .iload 2, .invokevirtual 87, .aload 0, .invokeinterface 0 0, .invokevirtual 89, .ireturn]
noncomputable abbrev fd_o11 : List (Instr × Nat) := [(.iload_n 1, 1), (.invokestatic 47, 3), (.ifCond .ne 5, 3), (.iconst (-1), 1), (.ireturn, 1), (.iload_n 2, 1), (.bipush (-12), 2), (.if_icmp .le 13, 3), (.iload_n 2, 1), (.bipush 12, 2), (.if_icmp .ge 7, 3), (.iload_n 2, 1), (.ifCond .ne 6, 3), (.bipush (-2), 2), (.ireturn, 1), (.aload_n 0, 1), (.getfield 12, 3), (.iload_n 1, 1), (.iload_n 2, 1), (.invokevirtual 101, 3), (.ifCond .ne 6, 3), (.bipush (-5), 2), (.ireturn, 1), (.aload_n 0, 1), (.getfield 36, 3), (.aload_n 0, 1), (.getfield 12, 3), (.invokevirtual 58, 3), (.aload_n 0, 1), (.getfield 12, 3), (.iload_n 1, 1), (.iload_n 2, 1), (.invokevirtual 105, 3), (.aload_n 0, 1), (.getfield 12, 3), (.invokevirtual 108, 3), (.ireturn, 1)]
abbrev fd_p11 : List Nat := [0, 1, 4, 7, 8, 9, 10, 12, 15, 16, 18, 21, 22, 25, 27, 28, 29, 32, 33, 34, 37, 40, 42, 43, 44, 47, 48, 51, 54, 55, 58, 59, 60, 63, 64, 67, 70, 71]
-- 12: FoldedStrips.turn(II)I
noncomputable abbrev fd_c12 : List Instr := [.iload 1, .invokestatic 1, .ifCond .ne 5, .sipush (-1), .ireturn, .iload 2, .invokestatic 13, .ifCond .ne 10, .sipush (-2), .ireturn, .aload 0, .invokeinterface 0 4, .aload 0, .invokeinterface 0 0, .invokevirtual 38, .aload 0, .invokeinterface 0 0, .iload 1, .iload 2, .invokevirtual 92, .aload 0, .invokeinterface 0 0, .invokevirtual 89, .ireturn]
noncomputable abbrev fd_o12 : List (Instr × Nat) := [(.iload_n 1, 1), (.invokestatic 47, 3), (.ifCond .ne 5, 3), (.iconst (-1), 1), (.ireturn, 1), (.iload_n 2, 1), (.invokestatic 111, 3), (.ifCond .ne 6, 3), (.bipush (-2), 2), (.ireturn, 1), (.aload_n 0, 1), (.getfield 36, 3), (.aload_n 0, 1), (.getfield 12, 3), (.invokevirtual 58, 3), (.aload_n 0, 1), (.getfield 12, 3), (.iload_n 1, 1), (.iload_n 2, 1), (.invokevirtual 114, 3), (.aload_n 0, 1), (.getfield 12, 3), (.invokevirtual 108, 3), (.ireturn, 1)]
abbrev fd_p12 : List Nat := [0, 1, 4, 7, 8, 9, 10, 13, 16, 18, 19, 20, 23, 24, 27, 30, 31, 34, 35, 36, 39, 40, 43, 46, 47]
-- 13: FoldedStrips.isTurn(I)Z
noncomputable abbrev fd_c13 : List Instr := [.iload 0, .ifCond .eq 8, .iload 0, .sipush 1, .if_icmp .eq 8, .iload 0, .sipush 2, .if_icmp .ne 10, .sipush 1, .goto 11, .sipush 0, .ireturn]
noncomputable abbrev fd_o13 : List (Instr × Nat) := [(.iload_n 0, 1), (.ifCond .eq 13, 3), (.iload_n 0, 1), (.iconst 1, 1), (.if_icmp .eq 8, 3), (.iload_n 0, 1), (.iconst 2, 1), (.if_icmp .ne 7, 3), (.iconst 1, 1), (.goto 4, 3), (.iconst 0, 1), (.ireturn, 1)]
abbrev fd_p13 : List Nat := [0, 1, 4, 5, 6, 9, 10, 11, 14, 15, 18, 19, 20]
-- 14: FoldedStrips.exchange(II)I
noncomputable abbrev fd_c14 : List Instr := [.iload 1, .invokestatic 1, .ifCond .eq 6, .iload 2, .invokestatic 1, .ifCond .ne 8, .sipush (-1), .ireturn, .iload 1, .iload 2, .if_icmp .ne 13, .sipush (-5), .ireturn, .aload 0, .invokeinterface 0 4, .aload 0, .invokeinterface 0 0, .invokevirtual 38, .aload 0, .invokeinterface 0 0, .iload 1, .iload 2, .invokevirtual 94, .aload 0, .invokeinterface 0 0, .invokevirtual 89, .ireturn]
noncomputable abbrev fd_o14 : List (Instr × Nat) := [(.iload_n 1, 1), (.invokestatic 47, 3), (.ifCond .eq 10, 3), (.iload_n 2, 1), (.invokestatic 47, 3), (.ifCond .ne 5, 3), (.iconst (-1), 1), (.ireturn, 1), (.iload_n 1, 1), (.iload_n 2, 1), (.if_icmp .ne 6, 3), (.bipush (-5), 2), (.ireturn, 1), (.aload_n 0, 1), (.getfield 36, 3), (.aload_n 0, 1), (.getfield 12, 3), (.invokevirtual 58, 3), (.aload_n 0, 1), (.getfield 12, 3), (.iload_n 1, 1), (.iload_n 2, 1), (.invokevirtual 117, 3), (.aload_n 0, 1), (.getfield 12, 3), (.invokevirtual 108, 3), (.ireturn, 1)]
abbrev fd_p14 : List Nat := [0, 1, 4, 7, 8, 11, 14, 15, 16, 17, 18, 21, 23, 24, 25, 28, 29, 32, 35, 36, 39, 40, 41, 44, 45, 48, 51, 52]
-- 15: FoldedStrips.takeUp(I)I
noncomputable abbrev fd_c15 : List Instr := [.iload 1, .invokestatic 1, .ifCond .eq 5, .iload 1, .ifCond .ne 7, .sipush (-1), .ireturn, .aload 0, .invokeinterface 0 4, .aload 0, .invokeinterface 0 0, .invokevirtual 38, .aload 0, .invokeinterface 0 0, .iload 1, .invokevirtual 95, .ireturn]
noncomputable abbrev fd_o15 : List (Instr × Nat) := [(.iload_n 1, 1), (.invokestatic 47, 3), (.ifCond .eq 7, 3), (.iload_n 1, 1), (.ifCond .ne 5, 3), (.iconst (-1), 1), (.ireturn, 1), (.aload_n 0, 1), (.getfield 36, 3), (.aload_n 0, 1), (.getfield 12, 3), (.invokevirtual 58, 3), (.aload_n 0, 1), (.getfield 12, 3), (.iload_n 1, 1), (.invokevirtual 120, 3), (.ireturn, 1)]
abbrev fd_p15 : List Nat := [0, 1, 4, 7, 8, 11, 12, 13, 14, 17, 18, 21, 24, 25, 28, 29, 32, 33]
-- 16: FoldedStrips.end(III)I
noncomputable abbrev fd_c16 : List Instr := [.iload 1, .invokestatic 1, .ifCond .eq 6, .iload 2, .invokestatic 4, .ifCond .ne 8, .sipush (-1), .ireturn, .iload 3, .ifCond .lt 13, .iload 3, .sipush 3, .if_icmp .le 15, .sipush (-2), .ireturn, .iload 1, .iload 2, .invokestatic 3, .istore 4, .iload 3, .sipush 1, .if_icmp .ne 27, .aload 0, .invokeinterface 0 0, .iload 4, .invokevirtual 97, .ireturn, .aload 0, .invokeinterface 0 0, .iload 4, .invokevirtual 83, .ifCond .ne 34, .sipush (-6), .ireturn, .iload 3, .lookupswitch 51 #[(0, 36), (2, 41)], .aload 0, .invokeinterface 0 0, .iload 4, .invokevirtual 84, .ireturn, .aload 0, .invokeinterface 0 2, .aload 0, .invokeinterface 0 0, .invokevirtual 41, .aload 0, .invokeinterface 0 2, .iload 4, .invokevirtual 46, .ireturn, .aload 0, .invokeinterface 0 0, .iload 4, .invokevirtual 100, .ireturn]
noncomputable abbrev fd_o16 : List (Instr × Nat) := [(.iload_n 1, 1), (.invokestatic 47, 3), (.ifCond .eq 10, 3), (.iload_n 2, 1), (.invokestatic 81, 3), (.ifCond .ne 5, 3), (.iconst (-1), 1), (.ireturn, 1), (.iload_n 3, 1), (.ifCond .lt 8, 3), (.iload_n 3, 1), (.iconst 3, 1), (.if_icmp .le 6, 3), (.bipush (-2), 2), (.ireturn, 1), (.iload_n 1, 1), (.iload_n 2, 1), (.invokestatic 84, 3), (.istore 4, 2), (.iload_n 3, 1), (.iconst 1, 1), (.if_icmp .ne 13, 3), (.aload_n 0, 1), (.getfield 12, 3), (.iload 4, 2), (.invokevirtual 123, 3), (.ireturn, 1), (.aload_n 0, 1), (.getfield 12, 3), (.iload 4, 2), (.invokevirtual 88, 3), (.ifCond .ne 6, 3), (.bipush (-6), 2), (.ireturn, 1), (.iload_n 3, 1), (.lookupswitch 57 #[(0, 26), (2, 36)], 26), (.aload_n 0, 1), (.getfield 12, 3), (.iload 4, 2), (.invokevirtual 95, 3), (.ireturn, 1), (.aload_n 0, 1), (.getfield 22, 3), (.aload_n 0, 1), (.getfield 12, 3), (.invokevirtual 126, 3), (.aload_n 0, 1), (.getfield 22, 3), (.iload 4, 2), (.invokevirtual 129, 3), (.ireturn, 1), (.aload_n 0, 1), (.getfield 12, 3), (.iload 4, 2), (.invokevirtual 132, 3), (.ireturn, 1)]
abbrev fd_p16 : List Nat := [0, 1, 4, 7, 8, 11, 14, 15, 16, 17, 20, 21, 22, 25, 27, 28, 29, 30, 33, 35, 36, 37, 40, 41, 44, 46, 49, 50, 51, 54, 56, 59, 62, 64, 65, 66, 92, 93, 96, 98, 101, 102, 103, 106, 107, 110, 113, 114, 117, 119, 122, 123, 124, 127, 129, 132, 133]
-- 17: FoldedStrips.neighbourOf(I)I
noncomputable abbrev fd_c17 : List Instr := [.iload 0, .invokestatic 6, .ifCond .ne 5, .sipush (-1), .ireturn, .iload 0, .sipush 24, .irem, .sipush 12, .if_icmp .ge 12, .sipush 1, .goto 13, .sipush 0, .istore 1, .iload 1, .ifCond .eq 20, .iload 0, .sipush 12, .isub, .goto 23, .iload 0, .sipush 12, .iadd, .istore 2, .iload 2, .invokestatic 6, .ifCond .eq 29, .iload 2, .goto 30, .sipush (-1), .ireturn]
noncomputable abbrev fd_o17 : List (Instr × Nat) := [(.iload_n 0, 1), (.invokestatic 263, 3), (.ifCond .ne 5, 3), (.iconst (-1), 1), (.ireturn, 1), (.iload_n 0, 1), (.bipush 24, 2), (.irem, 1), (.bipush 12, 2), (.if_icmp .ge 7, 3), (.iconst 1, 1), (.goto 4, 3), (.iconst 0, 1), (.istore_n 1, 1), (.iload_n 1, 1), (.ifCond .eq 10, 3), (.iload_n 0, 1), (.bipush 12, 2), (.isub, 1), (.goto 7, 3), (.iload_n 0, 1), (.bipush 12, 2), (.iadd, 1), (.istore_n 2, 1), (.iload_n 2, 1), (.invokestatic 263, 3), (.ifCond .eq 7, 3), (.iload_n 2, 1), (.goto 4, 3), (.iconst (-1), 1), (.ireturn, 1)]
abbrev fd_p17 : List Nat := [0, 1, 4, 7, 8, 9, 10, 12, 13, 15, 18, 19, 22, 23, 24, 25, 28, 29, 31, 32, 35, 36, 38, 39, 40, 41, 44, 47, 48, 51, 52, 53]
-- 18: FoldedStrips.panelOf(I)I
noncomputable abbrev fd_c18 : List Instr := [.iload 0, .sipush 24, .idiv, .ireturn]
noncomputable abbrev fd_o18 : List (Instr × Nat) := [(.iload_n 0, 1), (.bipush 24, 2), (.idiv, 1), (.ireturn, 1)]
abbrev fd_p18 : List Nat := [0, 1, 3, 4, 5]
-- 19: FoldedStrips.panel(II)I
noncomputable abbrev fd_c19 : List Instr := [.iload 1, .invokestatic 1, .ifCond .ne 5, .sipush (-1), .ireturn, .iload 2, .tableswitch 54 0 7 #[7, 12, 17, 23, 29, 34, 39, 49], .aload 0, .invokeinterface 0 0, .iload 1, .invokevirtual 81, .ireturn, .aload 0, .invokeinterface 0 0, .iload 1, .invokevirtual 99, .ireturn, .aload 0, .invokeinterface 0 0, .iload 1, .invokestatic 5, .invokevirtual 82, .ireturn, .aload 0, .invokeinterface 0 0, .iload 1, .invokestatic 7, .invokevirtual 82, .ireturn, .aload 0, .invokeinterface 0 0, .iload 1, .invokevirtual 103, .ireturn, .aload 0, .invokeinterface 0 0, .iload 1, .invokevirtual 104, .ireturn, .aload 0, .invokeinterface 0 2, .aload 0, .invokeinterface 0 0, .invokevirtual 41, .aload 0, .invokeinterface 0 2, .iload 1, .invokevirtual 47, .ireturn, .aload 0, .invokeinterface 0 0, .iload 1, .invokevirtual 105, .ireturn, .sipush (-2), .ireturn]
noncomputable abbrev fd_o19 : List (Instr × Nat) := [(.iload_n 1, 1), (.invokestatic 47, 3), (.ifCond .ne 5, 3), (.iconst (-1), 1), (.ireturn, 1), (.iload_n 2, 1), (.tableswitch 135 0 7 #[46, 55, 64, 76, 88, 97, 106, 126], 46), (.aload_n 0, 1), (.getfield 12, 3), (.iload_n 1, 1), (.invokevirtual 77, 3), (.ireturn, 1), (.aload_n 0, 1), (.getfield 12, 3), (.iload_n 1, 1), (.invokevirtual 135, 3), (.ireturn, 1), (.aload_n 0, 1), (.getfield 12, 3), (.iload_n 1, 1), (.invokestatic 138, 3), (.invokevirtual 141, 3), (.ireturn, 1), (.aload_n 0, 1), (.getfield 12, 3), (.iload_n 1, 1), (.invokestatic 144, 3), (.invokevirtual 141, 3), (.ireturn, 1), (.aload_n 0, 1), (.getfield 12, 3), (.iload_n 1, 1), (.invokevirtual 147, 3), (.ireturn, 1), (.aload_n 0, 1), (.getfield 12, 3), (.iload_n 1, 1), (.invokevirtual 150, 3), (.ireturn, 1), (.aload_n 0, 1), (.getfield 22, 3), (.aload_n 0, 1), (.getfield 12, 3), (.invokevirtual 126, 3), (.aload_n 0, 1), (.getfield 22, 3), (.iload_n 1, 1), (.invokevirtual 153, 3), (.ireturn, 1), (.aload_n 0, 1), (.getfield 12, 3), (.iload_n 1, 1), (.invokevirtual 156, 3), (.ireturn, 1), (.bipush (-2), 2), (.ireturn, 1)]
abbrev fd_p19 : List Nat := [0, 1, 4, 7, 8, 9, 10, 56, 57, 60, 61, 64, 65, 66, 69, 70, 73, 74, 75, 78, 79, 82, 85, 86, 87, 90, 91, 94, 97, 98, 99, 102, 103, 106, 107, 108, 111, 112, 115, 116, 117, 120, 121, 124, 127, 128, 131, 132, 135, 136, 137, 140, 141, 144, 145, 147, 148]
-- 20: FoldedStrips.fold(II)I
noncomputable abbrev fd_c20 : List Instr := [.iload 1, .invokestatic 21, .ifCond .ne 5, .sipush (-1), .ireturn, .iload 2, .tableswitch 32 0 3 #[7, 12, 22, 27], .aload 0, .invokeinterface 0 0, .iload 1, .invokevirtual 90, .ireturn, .aload 0, .invokeinterface 0 0, .iload 1, .invokevirtual 90, .aload 0, .invokeinterface 0 0, .iload 1, .invokevirtual 91, .iand, .ireturn, .aload 0, .invokeinterface 0 0, .iload 1, .invokevirtual 96, .ireturn, .aload 0, .invokeinterface 0 0, .iload 1, .invokevirtual 106, .ireturn, .sipush (-2), .ireturn]
noncomputable abbrev fd_o20 : List (Instr × Nat) := [(.iload_n 1, 1), (.invokestatic 159, 3), (.ifCond .ne 5, 3), (.iconst (-1), 1), (.ireturn, 1), (.iload_n 2, 1), (.tableswitch 75 0 3 #[30, 39, 57, 66], 30), (.aload_n 0, 1), (.getfield 12, 3), (.iload_n 1, 1), (.invokevirtual 162, 3), (.ireturn, 1), (.aload_n 0, 1), (.getfield 12, 3), (.iload_n 1, 1), (.invokevirtual 162, 3), (.aload_n 0, 1), (.getfield 12, 3), (.iload_n 1, 1), (.invokevirtual 165, 3), (.iand, 1), (.ireturn, 1), (.aload_n 0, 1), (.getfield 12, 3), (.iload_n 1, 1), (.invokevirtual 168, 3), (.ireturn, 1), (.aload_n 0, 1), (.getfield 12, 3), (.iload_n 1, 1), (.invokevirtual 171, 3), (.ireturn, 1), (.bipush (-2), 2), (.ireturn, 1)]
abbrev fd_p20 : List Nat := [0, 1, 4, 7, 8, 9, 10, 40, 41, 44, 45, 48, 49, 50, 53, 54, 57, 58, 61, 62, 65, 66, 67, 68, 71, 72, 75, 76, 77, 80, 81, 84, 85, 87, 88]
-- 21: FoldedStrips.isFold(I)Z
noncomputable abbrev fd_c21 : List Instr := [.iload 0, .ifCond .lt 7, .iload 0, .sipush 5, .if_icmp .ge 7, .sipush 1, .goto 8, .sipush 0, .ireturn]
noncomputable abbrev fd_o21 : List (Instr × Nat) := [(.iload_n 0, 1), (.ifCond .lt 12, 3), (.iload_n 0, 1), (.iconst 5, 1), (.if_icmp .ge 7, 3), (.iconst 1, 1), (.goto 4, 3), (.iconst 0, 1), (.ireturn, 1)]
abbrev fd_p21 : List Nat := [0, 1, 4, 5, 6, 9, 10, 13, 14, 15]
-- 22: FoldedStrips.hand(II)I
noncomputable abbrev fd_c22 : List Instr := [.iload 1, .invokestatic 2, .ifCond .ne 5, .sipush (-1), .ireturn, .iload 2, .tableswitch 32 0 3 #[7, 12, 17, 27], .aload 0, .invokeinterface 0 0, .iload 1, .invokevirtual 107, .ireturn, .aload 0, .invokeinterface 0 0, .iload 1, .invokevirtual 108, .ireturn, .aload 0, .invokeinterface 0 0, .iload 1, .invokevirtual 109, .aload 0, .invokeinterface 0 0, .iload 1, .invokevirtual 110, .iadd, .ireturn, .aload 0, .invokeinterface 0 0, .iload 1, .invokevirtual 110, .ireturn, .sipush (-2), .ireturn]
noncomputable abbrev fd_o22 : List (Instr × Nat) := [(.iload_n 1, 1), (.invokestatic 51, 3), (.ifCond .ne 5, 3), (.iconst (-1), 1), (.ireturn, 1), (.iload_n 2, 1), (.tableswitch 75 0 3 #[30, 39, 48, 66], 30), (.aload_n 0, 1), (.getfield 12, 3), (.iload_n 1, 1), (.invokevirtual 174, 3), (.ireturn, 1), (.aload_n 0, 1), (.getfield 12, 3), (.iload_n 1, 1), (.invokevirtual 177, 3), (.ireturn, 1), (.aload_n 0, 1), (.getfield 12, 3), (.iload_n 1, 1), (.invokevirtual 180, 3), (.aload_n 0, 1), (.getfield 12, 3), (.iload_n 1, 1), (.invokevirtual 183, 3), (.iadd, 1), (.ireturn, 1), (.aload_n 0, 1), (.getfield 12, 3), (.iload_n 1, 1), (.invokevirtual 183, 3), (.ireturn, 1), (.bipush (-2), 2), (.ireturn, 1)]
abbrev fd_p22 : List Nat := [0, 1, 4, 7, 8, 9, 10, 40, 41, 44, 45, 48, 49, 50, 53, 54, 57, 58, 59, 62, 63, 66, 67, 70, 71, 74, 75, 76, 77, 80, 81, 84, 85, 87, 88]
-- 23: FoldedStrips.line(II)I
noncomputable abbrev fd_c23 : List Instr := [.aload 0, .invokeinterface 0 2, .aload 0, .invokeinterface 0 0, .invokevirtual 41, .iload 1, .ifCond .lt 12, .iload 1, .aload 0, .invokeinterface 0 2, .invokevirtual 49, .if_icmp .lt 14, .sipush (-1), .ireturn, .iload 2, .tableswitch 50 0 5 #[16, 21, 30, 35, 40, 45], .aload 0, .invokeinterface 0 2, .iload 1, .invokevirtual 50, .ireturn, .aload 0, .invokeinterface 0 2, .iload 1, .invokevirtual 51, .ifCond .eq 28, .sipush 1, .goto 29, .sipush 0, .ireturn, .aload 0, .invokeinterface 0 2, .iload 1, .invokevirtual 48, .ireturn, .aload 0, .invokeinterface 0 2, .iload 1, .invokevirtual 52, .ireturn, .aload 0, .invokeinterface 0 2, .iload 1, .invokevirtual 53, .ireturn, .aload 0, .invokeinterface 0 2, .iload 1, .invokevirtual 54, .ireturn, .sipush (-2), .ireturn]
noncomputable abbrev fd_o23 : List (Instr × Nat) := [(.aload_n 0, 1), (.getfield 22, 3), (.aload_n 0, 1), (.getfield 12, 3), (.invokevirtual 126, 3), (.iload_n 1, 1), (.ifCond .lt 14, 3), (.iload_n 1, 1), (.aload_n 0, 1), (.getfield 22, 3), (.invokevirtual 186, 3), (.if_icmp .lt 5, 3), (.iconst (-1), 1), (.ireturn, 1), (.iload_n 2, 1), (.tableswitch 101 0 5 #[39, 48, 65, 74, 83, 92], 39), (.aload_n 0, 1), (.getfield 22, 3), (.iload_n 1, 1), (.invokevirtual 189, 3), (.ireturn, 1), (.aload_n 0, 1), (.getfield 22, 3), (.iload_n 1, 1), (.invokevirtual 190, 3), (.ifCond .eq 7, 3), (.iconst 1, 1), (.goto 4, 3), (.iconst 0, 1), (.ireturn, 1), (.aload_n 0, 1), (.getfield 22, 3), (.iload_n 1, 1), (.invokevirtual 193, 3), (.ireturn, 1), (.aload_n 0, 1), (.getfield 22, 3), (.iload_n 1, 1), (.invokevirtual 196, 3), (.ireturn, 1), (.aload_n 0, 1), (.getfield 22, 3), (.iload_n 1, 1), (.invokevirtual 199, 3), (.ireturn, 1), (.aload_n 0, 1), (.getfield 22, 3), (.iload_n 1, 1), (.invokevirtual 202, 3), (.ireturn, 1), (.bipush (-2), 2), (.ireturn, 1)]
abbrev fd_p23 : List Nat := [0, 1, 4, 5, 8, 11, 12, 15, 16, 17, 20, 23, 26, 27, 28, 29, 68, 69, 72, 73, 76, 77, 78, 81, 82, 85, 88, 89, 92, 93, 94, 95, 98, 99, 102, 103, 104, 107, 108, 111, 112, 113, 116, 117, 120, 121, 122, 125, 126, 129, 130, 132, 133]
-- 24: FoldedStrips.count(I)I
noncomputable abbrev fd_c24 : List Instr := [.iload 1, .tableswitch 26 0 10 #[2, 26, 26, 6, 10, 6, 14, 26, 26, 18, 22], .aload 0, .invokeinterface 0 0, .invokevirtual 111, .ireturn, .aload 0, .invokeinterface 0 0, .invokevirtual 89, .ireturn, .aload 0, .invokeinterface 0 0, .invokevirtual 112, .ireturn, .aload 0, .invokeinterface 0 0, .invokevirtual 113, .ireturn, .aload 0, .invokeinterface 0 3, .invokevirtual 71, .ireturn, .aload 0, .invokeinterface 0 4, .invokevirtual 39, .ireturn, .aload 0, .invokeinterface 0 2, .aload 0, .invokeinterface 0 0, .invokevirtual 41, .aload 0, .iload 1, .invokevirtual 25, .ireturn]
noncomputable abbrev fd_o24 : List (Instr × Nat) := [(.iload_n 1, 1), (.tableswitch 107 0 10 #[59, 107, 107, 67, 75, 67, 83, 107, 107, 91, 99], 59), (.aload_n 0, 1), (.getfield 12, 3), (.invokevirtual 205, 3), (.ireturn, 1), (.aload_n 0, 1), (.getfield 12, 3), (.invokevirtual 108, 3), (.ireturn, 1), (.aload_n 0, 1), (.getfield 12, 3), (.invokevirtual 208, 3), (.ireturn, 1), (.aload_n 0, 1), (.getfield 12, 3), (.invokevirtual 211, 3), (.ireturn, 1), (.aload_n 0, 1), (.getfield 29, 3), (.invokevirtual 214, 3), (.ireturn, 1), (.aload_n 0, 1), (.getfield 36, 3), (.invokevirtual 217, 3), (.ireturn, 1), (.aload_n 0, 1), (.getfield 22, 3), (.aload_n 0, 1), (.getfield 12, 3), (.invokevirtual 126, 3), (.aload_n 0, 1), (.iload_n 1, 1), (.invokevirtual 218, 3), (.ireturn, 1)]
abbrev fd_p24 : List Nat := [0, 1, 60, 61, 64, 67, 68, 69, 72, 75, 76, 77, 80, 83, 84, 85, 88, 91, 92, 93, 96, 99, 100, 101, 104, 107, 108, 109, 112, 113, 116, 119, 120, 121, 124, 125]
-- 25: FoldedStrips.countOfLines(I)I
noncomputable abbrev fd_c25 : List Instr := [.iload 1, .tableswitch 18 1 8 #[2, 6, 18, 18, 18, 18, 10, 14], .aload 0, .invokeinterface 0 2, .invokevirtual 49, .ireturn, .aload 0, .invokeinterface 0 2, .invokevirtual 55, .ireturn, .aload 0, .invokeinterface 0 2, .invokevirtual 56, .ireturn, .aload 0, .invokeinterface 0 2, .invokevirtual 57, .ireturn, .sipush (-2), .ireturn]
noncomputable abbrev fd_o25 : List (Instr × Nat) := [(.iload_n 1, 1), (.tableswitch 79 1 8 #[47, 55, 79, 79, 79, 79, 63, 71], 47), (.aload_n 0, 1), (.getfield 22, 3), (.invokevirtual 186, 3), (.ireturn, 1), (.aload_n 0, 1), (.getfield 22, 3), (.invokevirtual 221, 3), (.ireturn, 1), (.aload_n 0, 1), (.getfield 22, 3), (.invokevirtual 224, 3), (.ireturn, 1), (.aload_n 0, 1), (.getfield 22, 3), (.invokevirtual 227, 3), (.ireturn, 1), (.bipush (-2), 2), (.ireturn, 1)]
abbrev fd_p25 : List Nat := [0, 1, 48, 49, 52, 55, 56, 57, 60, 63, 64, 65, 68, 71, 72, 73, 76, 79, 80, 82, 83]
-- 26: FoldedStrips.bestSlide(II)I
noncomputable abbrev fd_c26 : List Instr := [.iload 1, .invokestatic 1, .ifCond .ne 5, .sipush (-1), .ireturn, .iload 2, .ifCond .eq 12, .iload 2, .sipush 1, .if_icmp .eq 12, .sipush (-2), .ireturn, .sipush 0, .istore 3, .aload 0, .invokeinterface 0 0, .invokevirtual 89, .istore 4, .sipush 1, .istore 5, .iload 5, .sipush 12, .if_icmp .ge 54, .sipush (-1), .istore 6, .iload 6, .sipush 1, .if_icmp .gt 52, .iload 6, .iload 5, .imul, .istore 7, .aload 0, .invokeinterface 0 0, .iload 1, .iload 7, .invokevirtual 86, .ifCond .eq 50, .aload 0, .iload 1, .iload 7, .invokevirtual 27, .istore 8, .iload 8, .iload 4, .if_icmp .ge 50, .iload 7, .istore 3, .iload 8, .istore 4, .iinc 6 2, .goto 25, .iinc 5 1, .goto 20, .iload 2, .ifCond .ne 60, .sipush 20, .iload 3, .iadd, .goto 61, .iload 4, .ireturn]
noncomputable abbrev fd_o26 : List (Instr × Nat) := [(.iload_n 1, 1), (.invokestatic 47, 3), (.ifCond .ne 5, 3), (.iconst (-1), 1), (.ireturn, 1), (.iload_n 2, 1), (.ifCond .eq 11, 3), (.iload_n 2, 1), (.iconst 1, 1), (.if_icmp .eq 6, 3), (.bipush (-2), 2), (.ireturn, 1), (.iconst 0, 1), (.istore_n 3, 1), (.aload_n 0, 1), (.getfield 12, 3), (.invokevirtual 108, 3), (.istore 4, 2), (.iconst 1, 1), (.istore 5, 2), (.iload 5, 2), (.bipush 12, 2), (.if_icmp .ge 67, 3), (.iconst (-1), 1), (.istore 6, 2), (.iload 6, 2), (.iconst 1, 1), (.if_icmp .gt 52, 3), (.iload 6, 2), (.iload 5, 2), (.imul, 1), (.istore 7, 2), (.aload_n 0, 1), (.getfield 12, 3), (.iload_n 1, 1), (.iload 7, 2), (.invokevirtual 101, 3), (.ifCond .eq 26, 3), (.aload_n 0, 1), (.iload_n 1, 1), (.iload 7, 2), (.invokevirtual 230, 3), (.istore 8, 2), (.iload 8, 2), (.iload 4, 2), (.if_icmp .ge 10, 3), (.iload 7, 2), (.istore_n 3, 1), (.iload 8, 2), (.istore 4, 2), (.iinc 6 2, 3), (.goto (-52), 3), (.iinc 5 1, 3), (.goto (-68), 3), (.iload_n 2, 1), (.ifCond .ne 10, 3), (.bipush 20, 2), (.iload_n 3, 1), (.iadd, 1), (.goto 5, 3), (.iload 4, 2), (.ireturn, 1)]
abbrev fd_p26 : List Nat := [0, 1, 4, 7, 8, 9, 10, 13, 14, 15, 18, 20, 21, 22, 23, 24, 27, 30, 32, 33, 35, 37, 39, 42, 43, 45, 47, 48, 51, 53, 55, 56, 58, 59, 62, 63, 65, 68, 71, 72, 73, 75, 78, 80, 82, 84, 87, 89, 90, 92, 94, 97, 100, 103, 106, 107, 110, 112, 113, 114, 117, 119, 120]
-- 27: FoldedStrips.looseEndsIfSlid(II)I
noncomputable abbrev fd_c27 : List Instr := [.aload 0, .invokeinterface 0 1, .aload 0, .invokeinterface 0 0, .invokevirtual 77, .aload 0, .invokeinterface 0 1, .iload 1, .iload 2, .invokevirtual 87, .aload 0, .invokeinterface 0 1, .invokevirtual 89, .ireturn]
noncomputable abbrev fd_o27 : List (Instr × Nat) := [(.aload_n 0, 1), (.getfield 16, 3), (.aload_n 0, 1), (.getfield 12, 3), (.invokevirtual 233, 3), (.aload_n 0, 1), (.getfield 16, 3), (.iload_n 1, 1), (.iload_n 2, 1), (.invokevirtual 105, 3), (.aload_n 0, 1), (.getfield 16, 3), (.invokevirtual 108, 3), (.ireturn, 1)]
abbrev fd_p27 : List Nat := [0, 1, 4, 5, 8, 11, 12, 15, 16, 17, 20, 21, 24, 27, 28]
-- 28: FoldedStrips.bestExchange(I)I
noncomputable abbrev fd_c28 : List Instr := [.iload 1, .ifCond .eq 7, .iload 1, .sipush 1, .if_icmp .eq 7, .sipush (-2), .ireturn, .sipush 0, .istore 2, .sipush 145, .istore 3, .sipush 0, .istore 4, .iload 4, .sipush 6, .if_icmp .ge 43, .iload 4, .sipush 1, .iadd, .istore 5, .iload 5, .sipush 6, .if_icmp .ge 41, .aload 0, .iload 4, .iload 5, .invokevirtual 29, .istore 6, .iload 6, .iload 3, .if_icmp .ge 39, .sipush 10, .iload 4, .imul, .iload 5, .iadd, .istore 2, .iload 6, .istore 3, .iinc 5 1, .goto 20, .iinc 4 1, .goto 13, .iload 1, .ifCond .ne 47, .iload 2, .goto 48, .iload 3, .ireturn]
noncomputable abbrev fd_o28 : List (Instr × Nat) := [(.iload_n 1, 1), (.ifCond .eq 11, 3), (.iload_n 1, 1), (.iconst 1, 1), (.if_icmp .eq 6, 3), (.bipush (-2), 2), (.ireturn, 1), (.iconst 0, 1), (.istore_n 2, 1), (.sipush 145, 3), (.istore_n 3, 1), (.iconst 0, 1), (.istore 4, 2), (.iload 4, 2), (.bipush 6, 2), (.if_icmp .ge 56, 3), (.iload 4, 2), (.iconst 1, 1), (.iadd, 1), (.istore 5, 2), (.iload 5, 2), (.bipush 6, 2), (.if_icmp .ge 37, 3), (.aload_n 0, 1), (.iload 4, 2), (.iload 5, 2), (.invokevirtual 236, 3), (.istore 6, 2), (.iload 6, 2), (.iload_n 3, 1), (.if_icmp .ge 15, 3), (.bipush 10, 2), (.iload 4, 2), (.imul, 1), (.iload 5, 2), (.iadd, 1), (.istore_n 2, 1), (.iload 6, 2), (.istore_n 3, 1), (.iinc 5 1, 3), (.goto (-38), 3), (.iinc 4 1, 3), (.goto (-57), 3), (.iload_n 1, 1), (.ifCond .ne 7, 3), (.iload_n 2, 1), (.goto 4, 3), (.iload_n 3, 1), (.ireturn, 1)]
abbrev fd_p28 : List Nat := [0, 1, 4, 5, 6, 9, 11, 12, 13, 14, 17, 18, 19, 21, 23, 25, 28, 30, 31, 32, 34, 36, 38, 41, 42, 44, 46, 49, 51, 53, 54, 57, 59, 61, 62, 64, 65, 66, 68, 69, 72, 75, 78, 81, 82, 85, 86, 89, 90, 91]
-- 29: FoldedStrips.looseEndsIfExchanged(II)I
noncomputable abbrev fd_c29 : List Instr := [.aload 0, .invokeinterface 0 1, .aload 0, .invokeinterface 0 0, .invokevirtual 77, .aload 0, .invokeinterface 0 1, .iload 1, .iload 2, .invokevirtual 94, .aload 0, .invokeinterface 0 1, .invokevirtual 89, .ireturn]
noncomputable abbrev fd_o29 : List (Instr × Nat) := [(.aload_n 0, 1), (.getfield 16, 3), (.aload_n 0, 1), (.getfield 12, 3), (.invokevirtual 233, 3), (.aload_n 0, 1), (.getfield 16, 3), (.iload_n 1, 1), (.iload_n 2, 1), (.invokevirtual 117, 3), (.aload_n 0, 1), (.getfield 16, 3), (.invokevirtual 108, 3), (.ireturn, 1)]
abbrev fd_p29 : List Nat := [0, 1, 4, 5, 8, 11, 12, 15, 16, 17, 20, 21, 24, 27, 28]
-- 30: FoldedStrips.ifTurned(III)I
noncomputable abbrev fd_c30 : List Instr := [.iload 1, .invokestatic 1, .ifCond .ne 5, .sipush (-1), .ireturn, .iload 2, .invokestatic 13, .ifCond .eq 13, .iload 3, .ifCond .lt 13, .iload 3, .sipush 2, .if_icmp .le 15, .sipush (-2), .ireturn, .aload 0, .invokeinterface 0 1, .aload 0, .invokeinterface 0 0, .invokevirtual 77, .aload 0, .invokeinterface 0 1, .iload 1, .iload 2, .invokevirtual 92, .iload 3, .ifCond .ne 31, .aload 0, .invokeinterface 0 1, .invokevirtual 89, .ireturn, .aload 0, .invokeinterface 0 2, .aload 0, .invokeinterface 0 1, .invokevirtual 41, .iload 3, .sipush 1, .if_icmp .ne 43, .aload 0, .invokeinterface 0 2, .invokevirtual 49, .goto 46, .aload 0, .invokeinterface 0 2, .invokevirtual 55, .ireturn]
noncomputable abbrev fd_o30 : List (Instr × Nat) := [(.iload_n 1, 1), (.invokestatic 47, 3), (.ifCond .ne 5, 3), (.iconst (-1), 1), (.ireturn, 1), (.iload_n 2, 1), (.invokestatic 111, 3), (.ifCond .eq 12, 3), (.iload_n 3, 1), (.ifCond .lt 8, 3), (.iload_n 3, 1), (.iconst 2, 1), (.if_icmp .le 6, 3), (.bipush (-2), 2), (.ireturn, 1), (.aload_n 0, 1), (.getfield 16, 3), (.aload_n 0, 1), (.getfield 12, 3), (.invokevirtual 233, 3), (.aload_n 0, 1), (.getfield 16, 3), (.iload_n 1, 1), (.iload_n 2, 1), (.invokevirtual 114, 3), (.iload_n 3, 1), (.ifCond .ne 11, 3), (.aload_n 0, 1), (.getfield 16, 3), (.invokevirtual 108, 3), (.ireturn, 1), (.aload_n 0, 1), (.getfield 22, 3), (.aload_n 0, 1), (.getfield 16, 3), (.invokevirtual 126, 3), (.iload_n 3, 1), (.iconst 1, 1), (.if_icmp .ne 13, 3), (.aload_n 0, 1), (.getfield 22, 3), (.invokevirtual 186, 3), (.goto 10, 3), (.aload_n 0, 1), (.getfield 22, 3), (.invokevirtual 221, 3), (.ireturn, 1)]
abbrev fd_p30 : List Nat := [0, 1, 4, 7, 8, 9, 10, 13, 16, 17, 20, 21, 22, 25, 27, 28, 29, 32, 33, 36, 39, 40, 43, 44, 45, 48, 49, 52, 53, 56, 59, 60, 61, 64, 65, 68, 71, 72, 73, 76, 77, 80, 83, 86, 87, 90, 93, 94]
-- 31: FoldedStrips.put(J)I
noncomputable abbrev fd_c31 : List Instr := [.lload 1, .invokestatic 72, .istore 3, .iload 3, .ifCond .ne 7, .sipush (-2), .ireturn, .aload 0, .invokeinterface 0 3, .invokevirtual 71, .iload 3, .iadd, .sipush 60, .if_icmp .le 16, .sipush (-4), .ireturn, .aload 0, .invokeinterface 0 3, .lload 1, .iload 3, .invokevirtual 73, .aload 0, .invokeinterface 0 3, .invokevirtual 71, .ireturn]
noncomputable abbrev fd_o31 : List (Instr × Nat) := [(.lload_n 1, 1), (.invokestatic 239, 3), (.istore_n 3, 1), (.iload_n 3, 1), (.ifCond .ne 6, 3), (.bipush (-2), 2), (.ireturn, 1), (.aload_n 0, 1), (.getfield 29, 3), (.invokevirtual 214, 3), (.iload_n 3, 1), (.iadd, 1), (.bipush 60, 2), (.if_icmp .le 6, 3), (.bipush (-4), 2), (.ireturn, 1), (.aload_n 0, 1), (.getfield 29, 3), (.lload_n 1, 1), (.iload_n 3, 1), (.invokevirtual 243, 3), (.aload_n 0, 1), (.getfield 29, 3), (.invokevirtual 214, 3), (.ireturn, 1)]
abbrev fd_p31 : List Nat := [0, 1, 4, 5, 6, 9, 11, 12, 13, 16, 19, 20, 21, 23, 26, 28, 29, 30, 33, 34, 35, 38, 39, 42, 45, 46]
-- 32: FoldedStrips.wipe()I
noncomputable abbrev fd_c32 : List Instr := [.aload 0, .invokeinterface 0 3, .invokevirtual 71, .istore 1, .aload 0, .invokeinterface 0 3, .invokevirtual 70, .iload 1, .ireturn]
noncomputable abbrev fd_o32 : List (Instr × Nat) := [(.aload_n 0, 1), (.getfield 29, 3), (.invokevirtual 214, 3), (.istore_n 1, 1), (.aload_n 0, 1), (.getfield 29, 3), (.invokevirtual 74, 3), (.iload_n 1, 1), (.ireturn, 1)]
abbrev fd_p32 : List Nat := [0, 1, 4, 7, 8, 9, 12, 15, 16, 17]
-- 33: FoldedStrips.fault()I
noncomputable abbrev fd_c33 : List Instr := [.aload 0, .invokeinterface 0 3, .invokevirtual 58, .ireturn]
noncomputable abbrev fd_o33 : List (Instr × Nat) := [(.aload_n 0, 1), (.getfield 29, 3), (.invokevirtual 54, 3), (.ireturn, 1)]
abbrev fd_p33 : List Nat := [0, 1, 4, 7, 8]
-- 34: FoldedStrips.undo()I
noncomputable abbrev fd_c34 : List Instr := [.aload 0, .invokeinterface 0 4, .invokevirtual 39, .ifCond .ne 6, .sipush (-5), .ireturn, .aload 0, .invokeinterface 0 4, .aload 0, .invokeinterface 0 0, .invokevirtual 40, .aload 0, .invokeinterface 0 4, .invokevirtual 39, .ireturn]
noncomputable abbrev fd_o34 : List (Instr × Nat) := [(.aload_n 0, 1), (.getfield 36, 3), (.invokevirtual 217, 3), (.ifCond .ne 6, 3), (.bipush (-5), 2), (.ireturn, 1), (.aload_n 0, 1), (.getfield 36, 3), (.aload_n 0, 1), (.getfield 12, 3), (.invokevirtual 247, 3), (.aload_n 0, 1), (.getfield 36, 3), (.invokevirtual 217, 3), (.ireturn, 1)]
abbrev fd_p34 : List Nat := [0, 1, 4, 7, 10, 12, 13, 14, 17, 18, 21, 24, 25, 28, 31, 32]
-- 35: FoldedStrips.save(I)I
noncomputable abbrev fd_c35 : List Instr := [.iload 1, .invokestatic 36, .ifCond .ne 5, .sipush (-2), .ireturn, .aload 0, .invokeinterface 0 5, .iload 1, .aload 0, .invokeinterface 0 0, .invokevirtual 74, .aload 0, .invokeinterface 0 0, .invokevirtual 111, .ireturn]
noncomputable abbrev fd_o35 : List (Instr × Nat) := [(.iload_n 1, 1), (.invokestatic 250, 3), (.ifCond .ne 6, 3), (.bipush (-2), 2), (.ireturn, 1), (.aload_n 0, 1), (.getfield 43, 3), (.iload_n 1, 1), (.aload_n 0, 1), (.getfield 12, 3), (.invokevirtual 253, 3), (.aload_n 0, 1), (.getfield 12, 3), (.invokevirtual 205, 3), (.ireturn, 1)]
abbrev fd_p35 : List Nat := [0, 1, 4, 7, 9, 10, 11, 14, 15, 16, 19, 22, 23, 26, 29, 30]
-- 36: FoldedStrips.isSlot(I)Z
noncomputable abbrev fd_c36 : List Instr := [.iload 0, .ifCond .lt 7, .iload 0, .sipush 2, .if_icmp .ge 7, .sipush 1, .goto 8, .sipush 0, .ireturn]
noncomputable abbrev fd_o36 : List (Instr × Nat) := [(.iload_n 0, 1), (.ifCond .lt 12, 3), (.iload_n 0, 1), (.iconst 2, 1), (.if_icmp .ge 7, 3), (.iconst 1, 1), (.goto 4, 3), (.iconst 0, 1), (.ireturn, 1)]
abbrev fd_p36 : List Nat := [0, 1, 4, 5, 6, 9, 10, 13, 14, 15]
-- 37: FoldedStrips.restore(I)I
noncomputable abbrev fd_c37 : List Instr := [.iload 1, .invokestatic 36, .ifCond .ne 5, .sipush (-2), .ireturn, .aload 0, .invokeinterface 0 5, .iload 1, .invokevirtual 75, .ifCond .ne 12, .sipush (-5), .ireturn, .aload 0, .invokeinterface 0 4, .aload 0, .invokeinterface 0 0, .invokevirtual 38, .aload 0, .invokeinterface 0 5, .iload 1, .aload 0, .invokeinterface 0 0, .invokevirtual 76, .aload 0, .invokeinterface 0 0, .invokevirtual 111, .ireturn]
noncomputable abbrev fd_o37 : List (Instr × Nat) := [(.iload_n 1, 1), (.invokestatic 250, 3), (.ifCond .ne 6, 3), (.bipush (-2), 2), (.ireturn, 1), (.aload_n 0, 1), (.getfield 43, 3), (.iload_n 1, 1), (.invokevirtual 257, 3), (.ifCond .ne 6, 3), (.bipush (-5), 2), (.ireturn, 1), (.aload_n 0, 1), (.getfield 36, 3), (.aload_n 0, 1), (.getfield 12, 3), (.invokevirtual 58, 3), (.aload_n 0, 1), (.getfield 43, 3), (.iload_n 1, 1), (.aload_n 0, 1), (.getfield 12, 3), (.invokevirtual 260, 3), (.aload_n 0, 1), (.getfield 12, 3), (.invokevirtual 205, 3), (.ireturn, 1)]
abbrev fd_p37 : List Nat := [0, 1, 4, 7, 9, 10, 11, 14, 15, 18, 21, 23, 24, 25, 28, 29, 32, 35, 36, 39, 40, 41, 44, 47, 48, 51, 54, 55]
-- 38: FoldedStrips$History.remember(LFoldedStrips$Strip;)V
noncomputable abbrev fd_c38 : List Instr := [.aload 0, .invokeinterface 1 2, .ifCond .lt 7, .aload 0, .invokeinterface 1 2, .sipush 6, .if_icmp .lt 8, .return_, .aload 0, .invokeinterface 1 0, .aload 0, .invokeinterface 1 2, .aaload, .aload 1, .invokevirtual 77, .aload 0, .aload 0, .invokeinterface 1 2, .sipush 1, .iadd, .sipush 6, .irem, .multianewarray 1 2, .aload 0, .aload 0, .invokeinterface 1 1, .sipush 1, .iadd, .sipush 6, .pop2, .multianewarray 1 1, .return_]
noncomputable abbrev fd_o38 : List (Instr × Nat) := [(.aload_n 0, 1), (.getfield 21, 3), (.ifCond .lt 12, 3), (.aload_n 0, 1), (.getfield 21, 3), (.bipush 6, 2), (.if_icmp .lt 4, 3), (.return_, 1), (.aload_n 0, 1), (.getfield 11, 3), (.aload_n 0, 1), (.getfield 21, 3), (.aaload, 1), (.aload_n 1, 1), (.invokevirtual 25, 3), (.aload_n 0, 1), (.aload_n 0, 1), (.getfield 21, 3), (.iconst 1, 1), (.iadd, 1), (.bipush 6, 2), (.irem, 1), (.putfield 21, 3), (.aload_n 0, 1), (.aload_n 0, 1), (.getfield 17, 3), (.iconst 1, 1), (.iadd, 1), (.bipush 6, 2), (.invokestatic 29, 3), (.putfield 17, 3), (.return_, 1)]
abbrev fd_p38 : List Nat := [0, 1, 4, 7, 8, 11, 13, 16, 17, 18, 21, 22, 25, 26, 27, 30, 31, 32, 35, 36, 37, 39, 40, 43, 44, 45, 48, 49, 50, 52, 55, 58, 59]
-- 39: FoldedStrips$History.size()I
noncomputable abbrev fd_c39 : List Instr := [.aload 0, .invokeinterface 1 1, .ireturn]
noncomputable abbrev fd_o39 : List (Instr × Nat) := [(.aload_n 0, 1), (.getfield 17, 3), (.ireturn, 1)]
abbrev fd_p39 : List Nat := [0, 1, 4, 5]
-- 40: FoldedStrips$History.goBack(LFoldedStrips$Strip;)V
noncomputable abbrev fd_c40 : List Instr := [.aload 0, .invokeinterface 1 1, .ifCond .ne 4, .return_, .aload 0, .invokeinterface 1 2, .sipush 6, .iadd, .sipush 1, .isub, .sipush 6, .irem, .istore 2, .aload 1, .aload 0, .invokeinterface 1 0, .iload 2, .aaload, .invokevirtual 77, .aload 0, .iload 2, .multianewarray 1 2, .aload 0, .dup, .invokeinterface 1 1, .sipush 1, .isub, .multianewarray 1 1, .return_]
noncomputable abbrev fd_o40 : List (Instr × Nat) := [(.aload_n 0, 1), (.getfield 17, 3), (.ifCond .ne 4, 3), (.return_, 1), (.aload_n 0, 1), (.getfield 21, 3), (.bipush 6, 2), (.iadd, 1), (.iconst 1, 1), (.isub, 1), (.bipush 6, 2), (.irem, 1), (.istore_n 2, 1), (.aload_n 1, 1), (.aload_n 0, 1), (.getfield 11, 3), (.iload_n 2, 1), (.aaload, 1), (.invokevirtual 25, 3), (.aload_n 0, 1), (.iload_n 2, 1), (.putfield 21, 3), (.aload_n 0, 1), (.dup, 1), (.getfield 17, 3), (.iconst 1, 1), (.isub, 1), (.putfield 17, 3), (.return_, 1)]
abbrev fd_p40 : List Nat := [0, 1, 4, 7, 8, 9, 12, 14, 15, 16, 17, 19, 20, 21, 22, 23, 26, 27, 28, 31, 32, 33, 36, 37, 38, 41, 42, 43, 46, 47]
-- 41: FoldedStrips$Lines.trace(LFoldedStrips$Strip;)V
noncomputable abbrev fd_c41 : List Instr := [.aload 0, .sipush 0, .multianewarray 2 0, .aload 0, .invokeinterface 2 1, .sipush (-1), .invokestatic 183, .sipush 0, .istore 2, .iload 2, .sipush 144, .if_icmp .ge 28, .aload 1, .iload 2, .invokevirtual 83, .ifCond .eq 26, .aload 0, .invokeinterface 2 1, .iload 2, .iaload, .sipush (-1), .if_icmp .ne 26, .aload 0, .aload 1, .iload 2, .invokevirtual 42, .iinc 2 1, .goto 9, .return_]
noncomputable abbrev fd_o41 : List (Instr × Nat) := [(.aload_n 0, 1), (.iconst 0, 1), (.putfield 9, 3), (.aload_n 0, 1), (.getfield 15, 3), (.iconst (-1), 1), (.invokestatic 38, 3), (.iconst 0, 1), (.istore_n 2, 1), (.iload_n 2, 1), (.sipush 144, 3), (.if_icmp .ge 33, 3), (.aload_n 1, 1), (.iload_n 2, 1), (.invokevirtual 44, 3), (.ifCond .eq 19, 3), (.aload_n 0, 1), (.getfield 15, 3), (.iload_n 2, 1), (.iaload, 1), (.iconst (-1), 1), (.if_icmp .ne 9, 3), (.aload_n 0, 1), (.aload_n 1, 1), (.iload_n 2, 1), (.invokevirtual 50, 3), (.iinc 2 1, 3), (.goto (-34), 3), (.return_, 1)]
abbrev fd_p41 : List Nat := [0, 1, 2, 5, 6, 9, 10, 13, 14, 15, 16, 19, 22, 23, 24, 27, 30, 31, 34, 35, 36, 37, 40, 41, 42, 43, 46, 49, 52, 53]
-- 42: FoldedStrips$Lines.addLine(LFoldedStrips$Strip;I)V
noncomputable abbrev fd_c42 : List Instr := [.aload 0, .invokeinterface 2 0, .istore 3, .iload 3, .invokestatic 43, .ifCond .ne 7, .return_, .aload 0, .dup, .invokeinterface 2 0, .sipush 1, .iadd, .multianewarray 2 0, .aload 0, .invokeinterface 2 2, .iload 3, .sipush 0, .iastore, .aload 0, .invokeinterface 2 3, .iload 3, .sipush 0, .iastore, .aload 0, .invokeinterface 2 4, .iload 3, .sipush 0, .iastore, .aload 0, .aload 1, .iload 3, .iload 2, .invokevirtual 44, .istore 4, .aload 0, .aload 1, .iload 3, .iload 2, .invokestatic 17, .invokevirtual 44, .istore 5, .iload 5, .sipush (-1), .if_icmp .ne 46, .iload 2, .istore 5, .aload 0, .invokeinterface 2 7, .iload 3, .iload 4, .invokestatic 17, .iload 2, .if_icmp .ne 55, .sipush 1, .goto 56, .sipush 0, .bastore, .aload 0, .invokeinterface 2 5, .iload 3, .aload 0, .invokeinterface 2 7, .iload 3, .baload, .ifCond .eq 67, .sipush (-6), .goto 70, .iload 4, .iload 5, .pop2, .iastore, .aload 0, .invokeinterface 2 6, .iload 3, .aload 0, .invokeinterface 2 7, .iload 3, .baload, .ifCond .eq 81, .sipush (-6), .goto 84, .iload 4, .iload 5, .swap, .iastore, .return_]
noncomputable abbrev fd_o42 : List (Instr × Nat) := [(.aload_n 0, 1), (.getfield 9, 3), (.istore_n 3, 1), (.iload_n 3, 1), (.invokestatic 54, 3), (.ifCond .ne 4, 3), (.return_, 1), (.aload_n 0, 1), (.dup, 1), (.getfield 9, 3), (.iconst 1, 1), (.iadd, 1), (.putfield 9, 3), (.aload_n 0, 1), (.getfield 19, 3), (.iload_n 3, 1), (.iconst 0, 1), (.iastore, 1), (.aload_n 0, 1), (.getfield 22, 3), (.iload_n 3, 1), (.iconst 0, 1), (.iastore, 1), (.aload_n 0, 1), (.getfield 25, 3), (.iload_n 3, 1), (.iconst 0, 1), (.iastore, 1), (.aload_n 0, 1), (.aload_n 1, 1), (.iload_n 3, 1), (.iload_n 2, 1), (.invokevirtual 57, 3), (.istore 4, 2), (.aload_n 0, 1), (.aload_n 1, 1), (.iload_n 3, 1), (.iload_n 2, 1), (.invokestatic 61, 3), (.invokevirtual 57, 3), (.istore 5, 2), (.iload 5, 2), (.iconst (-1), 1), (.if_icmp .ne 6, 3), (.iload_n 2, 1), (.istore 5, 2), (.aload_n 0, 1), (.getfield 34, 3), (.iload_n 3, 1), (.iload 4, 2), (.invokestatic 61, 3), (.iload_n 2, 1), (.if_icmp .ne 7, 3), (.iconst 1, 1), (.goto 4, 3), (.iconst 0, 1), (.bastore, 1), (.aload_n 0, 1), (.getfield 28, 3), (.iload_n 3, 1), (.aload_n 0, 1), (.getfield 34, 3), (.iload_n 3, 1), (.baload, 1), (.ifCond .eq 8, 3), (.bipush (-6), 2), (.goto 10, 3), (.iload 4, 2), (.iload 5, 2), (.invokestatic 65, 3), (.iastore, 1), (.aload_n 0, 1), (.getfield 31, 3), (.iload_n 3, 1), (.aload_n 0, 1), (.getfield 34, 3), (.iload_n 3, 1), (.baload, 1), (.ifCond .eq 8, 3), (.bipush (-6), 2), (.goto 10, 3), (.iload 4, 2), (.iload 5, 2), (.invokestatic 71, 3), (.iastore, 1), (.return_, 1)]
abbrev fd_p42 : List Nat := [0, 1, 4, 5, 6, 9, 12, 13, 14, 15, 18, 19, 20, 23, 24, 27, 28, 29, 30, 31, 34, 35, 36, 37, 38, 41, 42, 43, 44, 45, 46, 47, 48, 51, 53, 54, 55, 56, 57, 60, 63, 65, 67, 68, 71, 72, 74, 75, 78, 79, 81, 84, 85, 88, 89, 92, 93, 94, 95, 98, 99, 100, 103, 104, 105, 108, 110, 113, 115, 117, 120, 121, 122, 125, 126, 127, 130, 131, 132, 135, 137, 140, 142, 144, 147, 148, 149]
-- 43: FoldedStrips$Lines.isIndex(I)Z
noncomputable abbrev fd_c43 : List Instr := [.iload 0, .ifCond .lt 7, .iload 0, .sipush 72, .if_icmp .ge 7, .sipush 1, .goto 8, .sipush 0, .ireturn]
noncomputable abbrev fd_o43 : List (Instr × Nat) := [(.iload_n 0, 1), (.ifCond .lt 13, 3), (.iload_n 0, 1), (.bipush 72, 2), (.if_icmp .ge 7, 3), (.iconst 1, 1), (.goto 4, 3), (.iconst 0, 1), (.ireturn, 1)]
abbrev fd_p43 : List Nat := [0, 1, 4, 5, 7, 10, 11, 14, 15, 16]
-- 44: FoldedStrips$Lines.follow(LFoldedStrips$Strip;II)I
noncomputable abbrev fd_c44 : List Instr := [.iload 3, .istore 4, .sipush (-1), .istore 5, .sipush 0, .istore 6, .iload 6, .sipush 72, .if_icmp .ge 36, .aload 1, .iload 4, .invokevirtual 83, .ifCond .eq 19, .aload 0, .invokeinterface 2 1, .iload 4, .iaload, .sipush (-1), .if_icmp .eq 21, .iload 5, .ireturn, .aload 1, .iload 4, .invokevirtual 98, .istore 5, .aload 0, .aload 1, .iload 2, .iload 4, .iload 5, .invokevirtual 45, .iload 5, .invokestatic 17, .istore 4, .iinc 6 1, .goto 6, .iload 5, .ireturn]
noncomputable abbrev fd_o44 : List (Instr × Nat) := [(.iload_n 3, 1), (.istore 4, 2), (.iconst (-1), 1), (.istore 5, 2), (.iconst 0, 1), (.istore 6, 2), (.iload 6, 2), (.bipush 72, 2), (.if_icmp .ge 57, 3), (.aload_n 1, 1), (.iload 4, 2), (.invokevirtual 44, 3), (.ifCond .eq 14, 3), (.aload_n 0, 1), (.getfield 15, 3), (.iload 4, 2), (.iaload, 1), (.iconst (-1), 1), (.if_icmp .eq 6, 3), (.iload 5, 2), (.ireturn, 1), (.aload_n 1, 1), (.iload 4, 2), (.invokevirtual 74, 3), (.istore 5, 2), (.aload_n 0, 1), (.aload_n 1, 1), (.iload_n 2, 1), (.iload 4, 2), (.iload 5, 2), (.invokevirtual 77, 3), (.iload 5, 2), (.invokestatic 61, 3), (.istore 4, 2), (.iinc 6 1, 3), (.goto (-58), 3), (.iload 5, 2), (.ireturn, 1)]
abbrev fd_p44 : List Nat := [0, 1, 3, 4, 6, 7, 9, 11, 13, 16, 17, 19, 22, 25, 26, 29, 31, 32, 33, 36, 38, 39, 40, 42, 45, 47, 48, 49, 50, 52, 54, 57, 59, 62, 64, 67, 70, 72, 73]
-- 45: FoldedStrips$Lines.take(LFoldedStrips$Strip;III)V
noncomputable abbrev fd_c45 : List Instr := [.iload 2, .invokestatic 43, .ifCond .eq 9, .iload 3, .invokestatic 6, .ifCond .eq 9, .iload 4, .invokestatic 6, .ifCond .ne 10, .return_, .aload 0, .invokeinterface 2 1, .iload 3, .iload 2, .iastore, .aload 0, .invokeinterface 2 1, .iload 4, .iload 2, .iastore, .aload 0, .invokeinterface 2 2, .iload 2, .dup2, .iaload, .sipush 1, .iadd, .iastore, .aload 0, .invokeinterface 2 3, .iload 2, .dup2, .iaload, .sipush 1, .iload 3, .invokestatic 18, .ishl, .ior, .iastore, .aload 0, .invokeinterface 2 4, .iload 2, .dup2, .iaload, .sipush 1, .aload 1, .iload 3, .invokestatic 18, .invokevirtual 99, .ishl, .ior, .iastore, .return_]
noncomputable abbrev fd_o45 : List (Instr × Nat) := [(.iload_n 2, 1), (.invokestatic 54, 3), (.ifCond .eq 18, 3), (.iload_n 3, 1), (.invokestatic 81, 3), (.ifCond .eq 11, 3), (.iload 4, 2), (.invokestatic 81, 3), (.ifCond .ne 4, 3), (.return_, 1), (.aload_n 0, 1), (.getfield 15, 3), (.iload_n 3, 1), (.iload_n 2, 1), (.iastore, 1), (.aload_n 0, 1), (.getfield 15, 3), (.iload 4, 2), (.iload_n 2, 1), (.iastore, 1), (.aload_n 0, 1), (.getfield 19, 3), (.iload_n 2, 1), (.dup2, 1), (.iaload, 1), (.iconst 1, 1), (.iadd, 1), (.iastore, 1), (.aload_n 0, 1), (.getfield 22, 3), (.iload_n 2, 1), (.dup2, 1), (.iaload, 1), (.iconst 1, 1), (.iload_n 3, 1), (.invokestatic 84, 3), (.ishl, 1), (.ior, 1), (.iastore, 1), (.aload_n 0, 1), (.getfield 25, 3), (.iload_n 2, 1), (.dup2, 1), (.iaload, 1), (.iconst 1, 1), (.aload_n 1, 1), (.iload_n 3, 1), (.invokestatic 84, 3), (.invokevirtual 87, 3), (.ishl, 1), (.ior, 1), (.iastore, 1), (.return_, 1)]
abbrev fd_p45 : List Nat := [0, 1, 4, 7, 8, 11, 14, 16, 19, 22, 23, 24, 27, 28, 29, 30, 31, 34, 36, 37, 38, 39, 42, 43, 44, 45, 46, 47, 48, 49, 52, 53, 54, 55, 56, 57, 60, 61, 62, 63, 64, 67, 68, 69, 70, 71, 72, 73, 76, 79, 80, 81, 82, 83]
-- 46: FoldedStrips$Lines.lineAt(I)I
noncomputable abbrev fd_c46 : List Instr := [.iload 1, .invokestatic 6, .ifCond .eq 8, .aload 0, .invokeinterface 2 1, .iload 1, .iaload, .goto 9, .sipush (-1), .ireturn]
noncomputable abbrev fd_o46 : List (Instr × Nat) := [(.iload_n 1, 1), (.invokestatic 81, 3), (.ifCond .eq 12, 3), (.aload_n 0, 1), (.getfield 15, 3), (.iload_n 1, 1), (.iaload, 1), (.goto 4, 3), (.iconst (-1), 1), (.ireturn, 1)]
abbrev fd_p46 : List Nat := [0, 1, 4, 7, 8, 11, 12, 13, 16, 17, 18]
-- 47: FoldedStrips$Lines.linesIn(I)I
noncomputable abbrev fd_c47 : List Instr := [.sipush 0, .istore 2, .sipush 0, .istore 3, .iload 3, .aload 0, .invokeinterface 2 0, .if_icmp .ge 19, .aload 0, .iload 3, .invokevirtual 48, .sipush 1, .iload 1, .ishl, .iand, .ifCond .eq 17, .iinc 2 1, .iinc 3 1, .goto 4, .iload 2, .ireturn]
noncomputable abbrev fd_o47 : List (Instr × Nat) := [(.iconst 0, 1), (.istore_n 2, 1), (.iconst 0, 1), (.istore_n 3, 1), (.iload_n 3, 1), (.aload_n 0, 1), (.getfield 9, 3), (.if_icmp .ge 24, 3), (.aload_n 0, 1), (.iload_n 3, 1), (.invokevirtual 90, 3), (.iconst 1, 1), (.iload_n 1, 1), (.ishl, 1), (.iand, 1), (.ifCond .eq 6, 3), (.iinc 2 1, 3), (.iinc 3 1, 3), (.goto (-26), 3), (.iload_n 2, 1), (.ireturn, 1)]
abbrev fd_p47 : List Nat := [0, 1, 2, 3, 4, 5, 6, 9, 12, 13, 14, 17, 18, 19, 20, 21, 24, 27, 30, 33, 34, 35]
-- 48: FoldedStrips$Lines.panelSetOf(I)I
noncomputable abbrev fd_c48 : List Instr := [.iload 1, .invokestatic 43, .ifCond .eq 8, .aload 0, .invokeinterface 2 3, .iload 1, .iaload, .goto 9, .sipush 0, .ireturn]
noncomputable abbrev fd_o48 : List (Instr × Nat) := [(.iload_n 1, 1), (.invokestatic 54, 3), (.ifCond .eq 12, 3), (.aload_n 0, 1), (.getfield 22, 3), (.iload_n 1, 1), (.iaload, 1), (.goto 4, 3), (.iconst 0, 1), (.ireturn, 1)]
abbrev fd_p48 : List Nat := [0, 1, 4, 7, 8, 11, 12, 13, 16, 17, 18]
-- 49: FoldedStrips$Lines.size()I
noncomputable abbrev fd_c49 : List Instr := [.aload 0, .invokeinterface 2 0, .ireturn]
noncomputable abbrev fd_o49 : List (Instr × Nat) := [(.aload_n 0, 1), (.getfield 9, 3), (.ireturn, 1)]
abbrev fd_p49 : List Nat := [0, 1, 4, 5]
-- 50: FoldedStrips$Lines.strokesOf(I)I
noncomputable abbrev fd_c50 : List Instr := [.iload 1, .invokestatic 43, .ifCond .eq 8, .aload 0, .invokeinterface 2 2, .iload 1, .iaload, .goto 9, .sipush 0, .ireturn]
noncomputable abbrev fd_o50 : List (Instr × Nat) := [(.iload_n 1, 1), (.invokestatic 54, 3), (.ifCond .eq 12, 3), (.aload_n 0, 1), (.getfield 19, 3), (.iload_n 1, 1), (.iaload, 1), (.goto 4, 3), (.iconst 0, 1), (.ireturn, 1)]
abbrev fd_p50 : List Nat := [0, 1, 4, 7, 8, 11, 12, 13, 16, 17, 18]
-- 51: FoldedStrips$Lines.isLoop(I)Z
noncomputable abbrev fd_c51 : List Instr := [.iload 1, .invokestatic 43, .ifCond .eq 10, .aload 0, .invokeinterface 2 7, .iload 1, .baload, .ifCond .eq 10, .sipush 1, .goto 11, .sipush 0, .ireturn]
noncomputable abbrev fd_o51 : List (Instr × Nat) := [(.iload_n 1, 1), (.invokestatic 54, 3), (.ifCond .eq 16, 3), (.aload_n 0, 1), (.getfield 34, 3), (.iload_n 1, 1), (.baload, 1), (.ifCond .eq 7, 3), (.iconst 1, 1), (.goto 4, 3), (.iconst 0, 1), (.ireturn, 1)]
abbrev fd_p51 : List Nat := [0, 1, 4, 7, 8, 11, 12, 13, 16, 17, 20, 21, 22]
-- 52: FoldedStrips$Lines.handSetOf(I)I
noncomputable abbrev fd_c52 : List Instr := [.iload 1, .invokestatic 43, .ifCond .eq 8, .aload 0, .invokeinterface 2 4, .iload 1, .iaload, .goto 9, .sipush 0, .ireturn]
noncomputable abbrev fd_o52 : List (Instr × Nat) := [(.iload_n 1, 1), (.invokestatic 54, 3), (.ifCond .eq 12, 3), (.aload_n 0, 1), (.getfield 25, 3), (.iload_n 1, 1), (.iaload, 1), (.goto 4, 3), (.iconst 0, 1), (.ireturn, 1)]
abbrev fd_p52 : List Nat := [0, 1, 4, 7, 8, 11, 12, 13, 16, 17, 18]
-- 53: FoldedStrips$Lines.lesserEndOf(I)I
noncomputable abbrev fd_c53 : List Instr := [.iload 1, .invokestatic 43, .ifCond .eq 8, .aload 0, .invokeinterface 2 5, .iload 1, .iaload, .goto 9, .sipush (-6), .ireturn]
noncomputable abbrev fd_o53 : List (Instr × Nat) := [(.iload_n 1, 1), (.invokestatic 54, 3), (.ifCond .eq 12, 3), (.aload_n 0, 1), (.getfield 28, 3), (.iload_n 1, 1), (.iaload, 1), (.goto 5, 3), (.bipush (-6), 2), (.ireturn, 1)]
abbrev fd_p53 : List Nat := [0, 1, 4, 7, 8, 11, 12, 13, 16, 18, 19]
-- 54: FoldedStrips$Lines.greaterEndOf(I)I
noncomputable abbrev fd_c54 : List Instr := [.iload 1, .invokestatic 43, .ifCond .eq 8, .aload 0, .invokeinterface 2 6, .iload 1, .iaload, .goto 9, .sipush (-6), .ireturn]
noncomputable abbrev fd_o54 : List (Instr × Nat) := [(.iload_n 1, 1), (.invokestatic 54, 3), (.ifCond .eq 12, 3), (.aload_n 0, 1), (.getfield 31, 3), (.iload_n 1, 1), (.iaload, 1), (.goto 5, 3), (.bipush (-6), 2), (.ireturn, 1)]
abbrev fd_p54 : List Nat := [0, 1, 4, 7, 8, 11, 12, 13, 16, 18, 19]
-- 55: FoldedStrips$Lines.loops()I
noncomputable abbrev fd_c55 : List Instr := [.sipush 0, .istore 1, .sipush 0, .istore 2, .iload 2, .aload 0, .invokeinterface 2 0, .if_icmp .ge 15, .aload 0, .iload 2, .invokevirtual 51, .ifCond .eq 13, .iinc 1 1, .iinc 2 1, .goto 4, .iload 1, .ireturn]
noncomputable abbrev fd_o55 : List (Instr × Nat) := [(.iconst 0, 1), (.istore_n 1, 1), (.iconst 0, 1), (.istore_n 2, 1), (.iload_n 2, 1), (.aload_n 0, 1), (.getfield 9, 3), (.if_icmp .ge 20, 3), (.aload_n 0, 1), (.iload_n 2, 1), (.invokevirtual 93, 3), (.ifCond .eq 6, 3), (.iinc 1 1, 3), (.iinc 2 1, 3), (.goto (-22), 3), (.iload_n 1, 1), (.ireturn, 1)]
abbrev fd_p55 : List Nat := [0, 1, 2, 3, 4, 5, 6, 9, 12, 13, 14, 17, 20, 23, 26, 29, 30, 31]
-- 56: FoldedStrips$Lines.longest()I
noncomputable abbrev fd_c56 : List Instr := [.sipush 0, .istore 1, .sipush 0, .istore 2, .iload 2, .aload 0, .invokeinterface 2 0, .if_icmp .ge 16, .iload 1, .aload 0, .iload 2, .invokevirtual 50, .swap, .istore 1, .iinc 2 1, .goto 4, .iload 1, .ireturn]
noncomputable abbrev fd_o56 : List (Instr × Nat) := [(.iconst 0, 1), (.istore_n 1, 1), (.iconst 0, 1), (.istore_n 2, 1), (.iload_n 2, 1), (.aload_n 0, 1), (.getfield 9, 3), (.if_icmp .ge 19, 3), (.iload_n 1, 1), (.aload_n 0, 1), (.iload_n 2, 1), (.invokevirtual 96, 3), (.invokestatic 71, 3), (.istore_n 1, 1), (.iinc 2 1, 3), (.goto (-21), 3), (.iload_n 1, 1), (.ireturn, 1)]
abbrev fd_p56 : List Nat := [0, 1, 2, 3, 4, 5, 6, 9, 12, 13, 14, 15, 18, 21, 22, 25, 28, 29, 30]
-- 57: FoldedStrips$Lines.fromTopToBottom()I
noncomputable abbrev fd_c57 : List Instr := [.sipush 0, .istore 1, .sipush 0, .istore 2, .iload 2, .aload 0, .invokeinterface 2 0, .if_icmp .ge 31, .aload 0, .iload 2, .invokevirtual 51, .ifCond .ne 19, .aload 0, .iload 2, .invokevirtual 53, .sipush 12, .if_icmp .ge 19, .sipush 1, .goto 20, .sipush 0, .istore 3, .iload 3, .ifCond .eq 29, .aload 0, .iload 2, .invokevirtual 54, .sipush 132, .if_icmp .lt 29, .iinc 1 1, .iinc 2 1, .goto 4, .iload 1, .ireturn]
noncomputable abbrev fd_o57 : List (Instr × Nat) := [(.iconst 0, 1), (.istore_n 1, 1), (.iconst 0, 1), (.istore_n 2, 1), (.iload_n 2, 1), (.aload_n 0, 1), (.getfield 9, 3), (.if_icmp .ge 51, 3), (.aload_n 0, 1), (.iload_n 2, 1), (.invokevirtual 93, 3), (.ifCond .ne 17, 3), (.aload_n 0, 1), (.iload_n 2, 1), (.invokevirtual 99, 3), (.bipush 12, 2), (.if_icmp .ge 7, 3), (.iconst 1, 1), (.goto 4, 3), (.iconst 0, 1), (.istore_n 3, 1), (.iload_n 3, 1), (.ifCond .eq 17, 3), (.aload_n 0, 1), (.iload_n 2, 1), (.invokevirtual 102, 3), (.sipush 132, 3), (.if_icmp .lt 6, 3), (.iinc 1 1, 3), (.iinc 2 1, 3), (.goto (-53), 3), (.iload_n 1, 1), (.ireturn, 1)]
abbrev fd_p57 : List Nat := [0, 1, 2, 3, 4, 5, 6, 9, 12, 13, 14, 17, 20, 21, 22, 25, 27, 30, 31, 34, 35, 36, 37, 40, 41, 42, 45, 48, 51, 54, 57, 60, 61, 62]
-- 58: FoldedStrips$Pad.firstFault()I
noncomputable abbrev fd_c58 : List Instr := [.sipush 0, .istore 1, .sipush 0, .istore 2, .iload 2, .aload 0, .invokeinterface 3 1, .if_icmp .ge 40, .aload 0, .iload 2, .iload 1, .invokevirtual 59, .ifCond .ne 15, .iload 2, .ireturn, .iload 2, .sipush 4, .irem, .sipush 2, .if_icmp .ne 38, .iload 1, .sipush 1, .aload 0, .iload 2, .sipush 2, .isub, .invokevirtual 68, .ishl, .sipush 1, .aload 0, .iload 2, .sipush 2, .isub, .invokevirtual 67, .ishl, .ior, .ior, .istore 1, .iinc 2 1, .goto 4, .aload 0, .invokeinterface 3 1, .sipush 4, .irem, .sipush 3, .if_icmp .ne 48, .sipush (-6), .goto 50, .aload 0, .invokeinterface 3 1, .ireturn]
noncomputable abbrev fd_o58 : List (Instr × Nat) := [(.iconst 0, 1), (.istore_n 1, 1), (.iconst 0, 1), (.istore_n 2, 1), (.iload_n 2, 1), (.aload_n 0, 1), (.getfield 15, 3), (.if_icmp .ge 49, 3), (.aload_n 0, 1), (.iload_n 2, 1), (.iload_n 1, 1), (.invokevirtual 25, 3), (.ifCond .ne 5, 3), (.iload_n 2, 1), (.ireturn, 1), (.iload_n 2, 1), (.iconst 4, 1), (.irem, 1), (.iconst 2, 1), (.if_icmp .ne 25, 3), (.iload_n 1, 1), (.iconst 1, 1), (.aload_n 0, 1), (.iload_n 2, 1), (.iconst 2, 1), (.isub, 1), (.invokevirtual 29, 3), (.ishl, 1), (.iconst 1, 1), (.aload_n 0, 1), (.iload_n 2, 1), (.iconst 2, 1), (.isub, 1), (.invokevirtual 33, 3), (.ishl, 1), (.ior, 1), (.ior, 1), (.istore_n 1, 1), (.iinc 2 1, 3), (.goto (-51), 3), (.aload_n 0, 1), (.getfield 15, 3), (.iconst 4, 1), (.irem, 1), (.iconst 3, 1), (.if_icmp .ne 8, 3), (.bipush (-6), 2), (.goto 7, 3), (.aload_n 0, 1), (.getfield 15, 3), (.ireturn, 1)]
abbrev fd_p58 : List Nat := [0, 1, 2, 3, 4, 5, 6, 9, 12, 13, 14, 15, 18, 21, 22, 23, 24, 25, 26, 27, 30, 31, 32, 33, 34, 35, 36, 39, 40, 41, 42, 43, 44, 45, 48, 49, 50, 51, 52, 55, 58, 59, 62, 63, 64, 65, 68, 70, 73, 74, 77, 78]
-- 59: FoldedStrips$Pad.canStand(II)Z
noncomputable abbrev fd_c59 : List Instr := [.iload 1, .sipush 4, .irem, .tableswitch 26 0 2 #[4, 10, 21], .aload 0, .iload 1, .invokevirtual 60, .iload 2, .invokestatic 62, .ireturn, .aload 0, .iload 1, .sipush 1, .isub, .invokevirtual 60, .aload 0, .iload 1, .invokevirtual 61, .iload 2, .invokestatic 63, .ireturn, .aload 0, .iload 1, .iload 2, .invokevirtual 66, .ireturn, .aload 0, .iload 1, .invokevirtual 61, .sipush 59, .if_icmp .ne 36, .iload 2, .sipush 16777215, .if_icmp .eq 36, .sipush 1, .goto 37, .sipush 0, .ireturn]
noncomputable abbrev fd_o59 : List (Instr × Nat) := [(.iload_n 1, 1), (.iconst 4, 1), (.irem, 1), (.tableswitch 59 0 2 #[25, 35, 52], 25), (.aload_n 0, 1), (.iload_n 1, 1), (.invokevirtual 36, 3), (.iload_n 2, 1), (.invokestatic 39, 3), (.ireturn, 1), (.aload_n 0, 1), (.iload_n 1, 1), (.iconst 1, 1), (.isub, 1), (.invokevirtual 36, 3), (.aload_n 0, 1), (.iload_n 1, 1), (.invokevirtual 21, 3), (.iload_n 2, 1), (.invokestatic 42, 3), (.ireturn, 1), (.aload_n 0, 1), (.iload_n 1, 1), (.iload_n 2, 1), (.invokevirtual 46, 3), (.ireturn, 1), (.aload_n 0, 1), (.iload_n 1, 1), (.invokevirtual 21, 3), (.bipush 59, 2), (.if_icmp .ne 13, 3), (.iload_n 2, 1), (.ldc 49, 2), (.if_icmp .eq 7, 3), (.iconst 1, 1), (.goto 4, 3), (.iconst 0, 1), (.ireturn, 1)]
abbrev fd_p59 : List Nat := [0, 1, 2, 3, 28, 29, 30, 33, 34, 37, 38, 39, 40, 41, 42, 45, 46, 47, 50, 51, 54, 55, 56, 57, 58, 61, 62, 63, 64, 67, 69, 72, 73, 75, 78, 79, 82, 83, 84]
-- 60: FoldedStrips$Pad.columnAt(I)I
noncomputable abbrev fd_c60 : List Instr := [.aload 0, .iload 1, .invokevirtual 61, .sipush 97, .isub, .istore 2, .iload 2, .ifCond .lt 13, .iload 2, .sipush 12, .if_icmp .ge 13, .iload 2, .goto 14, .sipush (-1), .ireturn]
noncomputable abbrev fd_o60 : List (Instr × Nat) := [(.aload_n 0, 1), (.iload_n 1, 1), (.invokevirtual 21, 3), (.bipush 97, 2), (.isub, 1), (.istore_n 2, 1), (.iload_n 2, 1), (.ifCond .lt 13, 3), (.iload_n 2, 1), (.bipush 12, 2), (.if_icmp .ge 7, 3), (.iload_n 2, 1), (.goto 4, 3), (.iconst (-1), 1), (.ireturn, 1)]
abbrev fd_p60 : List Nat := [0, 1, 2, 5, 7, 8, 9, 10, 13, 14, 16, 19, 20, 23, 24, 25]
-- 61: FoldedStrips$Pad.charAt(I)C
noncomputable abbrev fd_c61 : List Instr := [.iload 1, .ifCond .lt 11, .iload 1, .aload 0, .invokeinterface 3 1, .if_icmp .ge 11, .aload 0, .invokeinterface 3 0, .iload 1, .caload, .goto 12, .sipush 32, .ireturn]
noncomputable abbrev fd_o61 : List (Instr × Nat) := [(.iload_n 1, 1), (.ifCond .lt 20, 3), (.iload_n 1, 1), (.aload_n 0, 1), (.getfield 15, 3), (.if_icmp .ge 12, 3), (.aload_n 0, 1), (.getfield 11, 3), (.iload_n 1, 1), (.caload, 1), (.goto 5, 3), (.bipush 32, 2), (.ireturn, 1)]
abbrev fd_p61 : List Nat := [0, 1, 4, 5, 6, 9, 12, 13, 16, 17, 18, 21, 23, 24]
-- 62: FoldedStrips$Pad.canBegin(II)Z
noncomputable abbrev fd_c62 : List Instr := [.iload 0, .sipush 124, .iload 1, .invokestatic 63, .ifCond .ne 15, .iload 0, .sipush 94, .iload 1, .invokestatic 63, .ifCond .ne 15, .iload 0, .sipush 95, .iload 1, .invokestatic 63, .ifCond .eq 17, .sipush 1, .goto 18, .sipush 0, .ireturn]
noncomputable abbrev fd_o62 : List (Instr × Nat) := [(.iload_n 0, 1), (.bipush 124, 2), (.iload_n 1, 1), (.invokestatic 42, 3), (.ifCond .ne 23, 3), (.iload_n 0, 1), (.bipush 94, 2), (.iload_n 1, 1), (.invokestatic 42, 3), (.ifCond .ne 13, 3), (.iload_n 0, 1), (.bipush 95, 2), (.iload_n 1, 1), (.invokestatic 42, 3), (.ifCond .eq 7, 3), (.iconst 1, 1), (.goto 4, 3), (.iconst 0, 1), (.ireturn, 1)]
abbrev fd_p62 : List Nat := [0, 1, 3, 4, 7, 10, 11, 13, 14, 17, 20, 21, 23, 24, 27, 30, 31, 34, 35, 36]
-- 63: FoldedStrips$Pad.canGoOn(ICI)Z
noncomputable abbrev fd_c63 : List Instr := [.iload 0, .sipush (-1), .if_icmp .eq 11, .iload 2, .sipush 1, .iload 0, .iload 1, .invokestatic 64, .ishl, .iand, .ifCond .eq 13, .sipush 0, .ireturn, .iload 0, .iload 1, .invokestatic 65, .iload 2, .sipush (-1), .ixor, .iand, .ifCond .eq 23, .sipush 1, .goto 24, .sipush 0, .ireturn]
noncomputable abbrev fd_o63 : List (Instr × Nat) := [(.iload_n 0, 1), (.iconst (-1), 1), (.if_icmp .eq 15, 3), (.iload_n 2, 1), (.iconst 1, 1), (.iload_n 0, 1), (.iload_n 1, 1), (.invokestatic 50, 3), (.ishl, 1), (.iand, 1), (.ifCond .eq 5, 3), (.iconst 0, 1), (.ireturn, 1), (.iload_n 0, 1), (.iload_n 1, 1), (.invokestatic 54, 3), (.iload_n 2, 1), (.iconst (-1), 1), (.ixor, 1), (.iand, 1), (.ifCond .eq 7, 3), (.iconst 1, 1), (.goto 4, 3), (.iconst 0, 1), (.ireturn, 1)]
abbrev fd_p63 : List Nat := [0, 1, 2, 5, 6, 7, 8, 9, 12, 13, 14, 17, 18, 19, 20, 21, 24, 25, 26, 27, 28, 31, 32, 35, 36, 37]
-- 64: FoldedStrips$Pad.endFrom(IC)I
noncomputable abbrev fd_c64 : List Instr := [.iload 1, .sipush 95, .if_icmp .ne 7, .sipush 12, .iload 0, .iadd, .goto 8, .iload 0, .ireturn]
noncomputable abbrev fd_o64 : List (Instr × Nat) := [(.iload_n 1, 1), (.bipush 95, 2), (.if_icmp .ne 10, 3), (.bipush 12, 2), (.iload_n 0, 1), (.iadd, 1), (.goto 4, 3), (.iload_n 0, 1), (.ireturn, 1)]
abbrev fd_p64 : List Nat := [0, 1, 3, 6, 8, 9, 10, 13, 14, 15]
-- 65: FoldedStrips$Pad.endsTo(IC)I
noncomputable abbrev fd_c65 : List Instr := [.sipush 4095, .sipush (-2), .iload 0, .ishl, .iand, .istore 2, .iload 1, .sipush 124, .if_icmp .ne 11, .sipush 16773120, .ireturn, .iload 1, .sipush 94, .if_icmp .ne 16, .iload 2, .ireturn, .iload 1, .sipush 95, .if_icmp .ne 23, .iload 2, .sipush 12, .ishl, .goto 24, .sipush 0, .ireturn]
noncomputable abbrev fd_o65 : List (Instr × Nat) := [(.sipush 4095, 3), (.bipush (-2), 2), (.iload_n 0, 1), (.ishl, 1), (.iand, 1), (.istore_n 2, 1), (.iload_n 1, 1), (.bipush 124, 2), (.if_icmp .ne 6, 3), (.ldc 57, 2), (.ireturn, 1), (.iload_n 1, 1), (.bipush 94, 2), (.if_icmp .ne 5, 3), (.iload_n 2, 1), (.ireturn, 1), (.iload_n 1, 1), (.bipush 95, 2), (.if_icmp .ne 10, 3), (.iload_n 2, 1), (.bipush 12, 2), (.ishl, 1), (.goto 4, 3), (.iconst 0, 1), (.ireturn, 1)]
abbrev fd_p65 : List Nat := [0, 3, 5, 6, 7, 8, 9, 10, 12, 15, 17, 18, 19, 21, 24, 25, 26, 27, 29, 32, 33, 35, 36, 39, 40, 41]
-- 66: FoldedStrips$Pad.canClose(II)Z
noncomputable abbrev fd_c66 : List Instr := [.aload 0, .iload 1, .invokevirtual 60, .sipush (-1), .if_icmp .ne 7, .sipush 0, .ireturn, .aload 0, .iload 1, .sipush 2, .isub, .invokevirtual 60, .aload 0, .iload 1, .sipush 1, .isub, .invokevirtual 61, .invokestatic 65, .iload 2, .sipush (-1), .ixor, .iand, .istore 3, .iload 3, .sipush 1, .aload 0, .iload 1, .sipush 2, .isub, .invokevirtual 67, .ishl, .iand, .ifCond .eq 35, .sipush 1, .goto 36, .sipush 0, .ireturn]
noncomputable abbrev fd_o66 : List (Instr × Nat) := [(.aload_n 0, 1), (.iload_n 1, 1), (.invokevirtual 36, 3), (.iconst (-1), 1), (.if_icmp .ne 5, 3), (.iconst 0, 1), (.ireturn, 1), (.aload_n 0, 1), (.iload_n 1, 1), (.iconst 2, 1), (.isub, 1), (.invokevirtual 36, 3), (.aload_n 0, 1), (.iload_n 1, 1), (.iconst 1, 1), (.isub, 1), (.invokevirtual 21, 3), (.invokestatic 54, 3), (.iload_n 2, 1), (.iconst (-1), 1), (.ixor, 1), (.iand, 1), (.istore_n 3, 1), (.iload_n 3, 1), (.iconst 1, 1), (.aload_n 0, 1), (.iload_n 1, 1), (.iconst 2, 1), (.isub, 1), (.invokevirtual 33, 3), (.ishl, 1), (.iand, 1), (.ifCond .eq 7, 3), (.iconst 1, 1), (.goto 4, 3), (.iconst 0, 1), (.ireturn, 1)]
abbrev fd_p66 : List Nat := [0, 1, 2, 5, 6, 9, 10, 11, 12, 13, 14, 15, 18, 19, 20, 21, 22, 25, 28, 29, 30, 31, 32, 33, 34, 35, 36, 37, 38, 39, 42, 43, 44, 47, 48, 51, 52, 53]
-- 67: FoldedStrips$Pad.secondEnd(I)I
noncomputable abbrev fd_c67 : List Instr := [.aload 0, .iload 1, .sipush 2, .iadd, .invokevirtual 60, .istore 2, .aload 0, .iload 1, .sipush 1, .iadd, .invokevirtual 61, .sipush 94, .if_icmp .ne 15, .iload 2, .goto 18, .sipush 12, .iload 2, .iadd, .ireturn]
noncomputable abbrev fd_o67 : List (Instr × Nat) := [(.aload_n 0, 1), (.iload_n 1, 1), (.iconst 2, 1), (.iadd, 1), (.invokevirtual 36, 3), (.istore_n 2, 1), (.aload_n 0, 1), (.iload_n 1, 1), (.iconst 1, 1), (.iadd, 1), (.invokevirtual 21, 3), (.bipush 94, 2), (.if_icmp .ne 7, 3), (.iload_n 2, 1), (.goto 7, 3), (.bipush 12, 2), (.iload_n 2, 1), (.iadd, 1), (.ireturn, 1)]
abbrev fd_p67 : List Nat := [0, 1, 2, 3, 4, 7, 8, 9, 10, 11, 12, 15, 17, 20, 21, 24, 26, 27, 28, 29]
-- 68: FoldedStrips$Pad.firstEnd(I)I
noncomputable abbrev fd_c68 : List Instr := [.aload 0, .iload 1, .invokevirtual 60, .aload 0, .iload 1, .sipush 1, .iadd, .invokevirtual 61, .invokestatic 64, .ireturn]
noncomputable abbrev fd_o68 : List (Instr × Nat) := [(.aload_n 0, 1), (.iload_n 1, 1), (.invokevirtual 36, 3), (.aload_n 0, 1), (.iload_n 1, 1), (.iconst 1, 1), (.iadd, 1), (.invokevirtual 21, 3), (.invokestatic 50, 3), (.ireturn, 1)]
abbrev fd_p68 : List Nat := [0, 1, 2, 5, 6, 7, 8, 9, 12, 15, 16]
-- 69: FoldedStrips$Pad.drawOnto(LFoldedStrips$Strip;I)V
noncomputable abbrev fd_c69 : List Instr := [.sipush 0, .istore 3, .iload 3, .aload 0, .invokeinterface 3 1, .if_icmp .ge 17, .aload 1, .iload 2, .aload 0, .iload 3, .invokevirtual 68, .aload 0, .iload 3, .invokevirtual 67, .invokevirtual 80, .iinc 3 4, .goto 2, .return_]
noncomputable abbrev fd_o69 : List (Instr × Nat) := [(.iconst 0, 1), (.istore_n 3, 1), (.iload_n 3, 1), (.aload_n 0, 1), (.getfield 15, 3), (.if_icmp .ge 24, 3), (.aload_n 1, 1), (.iload_n 2, 1), (.aload_n 0, 1), (.iload_n 3, 1), (.invokevirtual 29, 3), (.aload_n 0, 1), (.iload_n 3, 1), (.invokevirtual 33, 3), (.invokevirtual 58, 3), (.iinc 3 4, 3), (.goto (-26), 3), (.return_, 1)]
abbrev fd_p69 : List Nat := [0, 1, 2, 3, 4, 7, 10, 11, 12, 13, 14, 17, 18, 19, 22, 25, 28, 31, 32]
-- 70: FoldedStrips$Pad.makeEmpty()V
noncomputable abbrev fd_c70 : List Instr := [.aload 0, .sipush 0, .multianewarray 3 1, .return_]
noncomputable abbrev fd_o70 : List (Instr × Nat) := [(.aload_n 0, 1), (.iconst 0, 1), (.putfield 15, 3), (.return_, 1)]
abbrev fd_p70 : List Nat := [0, 1, 2, 5, 6]
-- 71: FoldedStrips$Pad.length()I
noncomputable abbrev fd_c71 : List Instr := [.aload 0, .invokeinterface 3 1, .ireturn]
noncomputable abbrev fd_o71 : List (Instr × Nat) := [(.aload_n 0, 1), (.getfield 15, 3), (.ireturn, 1)]
abbrev fd_p71 : List Nat := [0, 1, 4, 5]
-- 72: FoldedStrips$Pad.charactersIn(J)I
noncomputable abbrev fd_c72 : List Instr := [.lload 0, .lstore 2, .sipush 0, .istore 4, .sipush 0, .istore 5, .iload 5, .sipush 8, .if_icmp .ge 39, .lload 2, .goto_w 255, .land, .l2i, .istore 6, .iload 6, .ifCond .ne 24, .lload 2, .goto_w 0, .lcmp, .ifCond .ne 22, .iload 4, .goto 23, .sipush 0, .ireturn, .iload 6, .sipush 33, .if_icmp .lt 30, .iload 6, .sipush 126, .if_icmp .le 32, .sipush 0, .ireturn, .iinc 4 1, .lload 2, .sipush 8, .lushr, .lstore 2, .iinc 5 1, .goto 6, .iload 4, .ireturn]
noncomputable abbrev fd_o72 : List (Instr × Nat) := [(.lload_n 0, 1), (.lstore_n 2, 1), (.iconst 0, 1), (.istore 4, 2), (.iconst 0, 1), (.istore 5, 2), (.iload 5, 2), (.bipush 8, 2), (.if_icmp .ge 59, 3), (.lload_n 2, 1), (.ldc2_w 19, 3), (.land, 1), (.l2i, 1), (.istore 6, 2), (.iload 6, 2), (.ifCond .ne 16, 3), (.lload_n 2, 1), (.lconst 0, 1), (.lcmp, 1), (.ifCond .ne 8, 3), (.iload 4, 2), (.goto 4, 3), (.iconst 0, 1), (.ireturn, 1), (.iload 6, 2), (.bipush 33, 2), (.if_icmp .lt 10, 3), (.iload 6, 2), (.bipush 126, 2), (.if_icmp .le 5, 3), (.iconst 0, 1), (.ireturn, 1), (.iinc 4 1, 3), (.lload_n 2, 1), (.bipush 8, 2), (.lushr, 1), (.lstore_n 2, 1), (.iinc 5 1, 3), (.goto (-60), 3), (.iload 4, 2), (.ireturn, 1)]
abbrev fd_p72 : List Nat := [0, 1, 2, 3, 5, 6, 8, 10, 12, 15, 16, 19, 20, 21, 23, 25, 28, 29, 30, 31, 34, 36, 39, 40, 41, 43, 45, 48, 50, 52, 55, 56, 57, 60, 61, 63, 64, 65, 68, 71, 73, 74]
-- 73: FoldedStrips$Pad.append(JI)V
noncomputable abbrev fd_c73 : List Instr := [.iload 3, .ifCond .lt 8, .aload 0, .invokeinterface 3 1, .iload 3, .iadd, .sipush 60, .if_icmp .le 9, .return_, .lload 1, .lstore 4, .aload 0, .invokeinterface 3 1, .iload 3, .iadd, .sipush 1, .isub, .istore 6, .iload 6, .aload 0, .invokeinterface 3 1, .if_icmp .lt 37, .aload 0, .invokeinterface 3 0, .iload 6, .lload 4, .goto_w 255, .land, .l2i, .i2c, .castore, .lload 4, .sipush 8, .lushr, .lstore 4, .iinc 6 (-1), .goto 18, .aload 0, .dup, .invokeinterface 3 1, .iload 3, .iadd, .multianewarray 3 1, .return_]
noncomputable abbrev fd_o73 : List (Instr × Nat) := [(.iload_n 3, 1), (.ifCond .lt 14, 3), (.aload_n 0, 1), (.getfield 15, 3), (.iload_n 3, 1), (.iadd, 1), (.bipush 60, 2), (.if_icmp .le 4, 3), (.return_, 1), (.lload_n 1, 1), (.lstore 4, 2), (.aload_n 0, 1), (.getfield 15, 3), (.iload_n 3, 1), (.iadd, 1), (.iconst 1, 1), (.isub, 1), (.istore 6, 2), (.iload 6, 2), (.aload_n 0, 1), (.getfield 15, 3), (.if_icmp .lt 31, 3), (.aload_n 0, 1), (.getfield 11, 3), (.iload 6, 2), (.lload 4, 2), (.ldc2_w 19, 3), (.land, 1), (.l2i, 1), (.i2c, 1), (.castore, 1), (.lload 4, 2), (.bipush 8, 2), (.lushr, 1), (.lstore 4, 2), (.iinc 6 (-1), 3), (.goto (-34), 3), (.aload_n 0, 1), (.dup, 1), (.getfield 15, 3), (.iload_n 3, 1), (.iadd, 1), (.putfield 15, 3), (.return_, 1)]
abbrev fd_p73 : List Nat := [0, 1, 4, 5, 8, 9, 10, 12, 15, 16, 17, 19, 20, 23, 24, 25, 26, 27, 29, 31, 32, 35, 38, 39, 42, 44, 46, 49, 50, 51, 52, 53, 55, 57, 58, 60, 63, 66, 67, 68, 71, 72, 73, 76, 77]
-- 74: FoldedStrips$Slots.keep(ILFoldedStrips$Strip;)V
noncomputable abbrev fd_c74 : List Instr := [.iload 1, .invokestatic 36, .ifCond .eq 14, .aload 0, .invokeinterface 4 0, .iload 1, .aaload, .aload 2, .invokevirtual 77, .aload 0, .invokeinterface 4 1, .iload 1, .sipush 1, .bastore, .return_]
noncomputable abbrev fd_o74 : List (Instr × Nat) := [(.iload_n 1, 1), (.invokestatic 22, 3), (.ifCond .eq 20, 3), (.aload_n 0, 1), (.getfield 11, 3), (.iload_n 1, 1), (.aaload, 1), (.aload_n 2, 1), (.invokevirtual 26, 3), (.aload_n 0, 1), (.getfield 17, 3), (.iload_n 1, 1), (.iconst 1, 1), (.bastore, 1), (.return_, 1)]
abbrev fd_p74 : List Nat := [0, 1, 4, 7, 8, 11, 12, 13, 14, 17, 18, 21, 22, 23, 24, 25]
-- 75: FoldedStrips$Slots.isKept(I)Z
noncomputable abbrev fd_c75 : List Instr := [.iload 1, .invokestatic 36, .ifCond .eq 10, .aload 0, .invokeinterface 4 1, .iload 1, .baload, .ifCond .eq 10, .sipush 1, .goto 11, .sipush 0, .ireturn]
noncomputable abbrev fd_o75 : List (Instr × Nat) := [(.iload_n 1, 1), (.invokestatic 22, 3), (.ifCond .eq 16, 3), (.aload_n 0, 1), (.getfield 17, 3), (.iload_n 1, 1), (.baload, 1), (.ifCond .eq 7, 3), (.iconst 1, 1), (.goto 4, 3), (.iconst 0, 1), (.ireturn, 1)]
abbrev fd_p75 : List Nat := [0, 1, 4, 7, 8, 11, 12, 13, 16, 17, 20, 21, 22]
-- 76: FoldedStrips$Slots.fetch(ILFoldedStrips$Strip;)V
noncomputable abbrev fd_c76 : List Instr := [.aload 0, .iload 1, .invokevirtual 75, .ifCond .eq 10, .aload 2, .aload 0, .invokeinterface 4 0, .iload 1, .aaload, .invokevirtual 77, .return_]
noncomputable abbrev fd_o76 : List (Instr × Nat) := [(.aload_n 0, 1), (.iload_n 1, 1), (.invokevirtual 30, 3), (.ifCond .eq 13, 3), (.aload_n 2, 1), (.aload_n 0, 1), (.getfield 11, 3), (.iload_n 1, 1), (.aaload, 1), (.invokevirtual 26, 3), (.return_, 1)]
abbrev fd_p76 : List Nat := [0, 1, 2, 5, 8, 9, 10, 13, 14, 15, 18, 19]
-- 77: FoldedStrips$Strip.copyFrom(LFoldedStrips$Strip;)V
noncomputable abbrev fd_c77 : List Instr := [.aload 1, .invokeinterface 5 0, .sipush 0, .aload 0, .invokeinterface 5 0, .sipush 0, .sipush 144, .nop, .aload 1, .invokeinterface 5 1, .sipush 0, .aload 0, .invokeinterface 5 1, .sipush 0, .sipush 6, .nop, .return_]
noncomputable abbrev fd_o77 : List (Instr × Nat) := [(.aload_n 1, 1), (.getfield 9, 3), (.iconst 0, 1), (.aload_n 0, 1), (.getfield 9, 3), (.iconst 0, 1), (.sipush 144, 3), (.invokestatic 21, 3), (.aload_n 1, 1), (.getfield 15, 3), (.iconst 0, 1), (.aload_n 0, 1), (.getfield 15, 3), (.iconst 0, 1), (.bipush 6, 2), (.invokestatic 21, 3), (.return_, 1)]
abbrev fd_p77 : List Nat := [0, 1, 4, 5, 6, 9, 10, 13, 16, 17, 20, 21, 22, 25, 26, 28, 31, 32]
-- 78: FoldedStrips$Strip.erase(I)V
noncomputable abbrev fd_c78 : List Instr := [.iload 1, .invokestatic 1, .ifCond .ne 4, .return_, .sipush 0, .istore 2, .iload 2, .sipush 24, .if_icmp .ge 18, .aload 0, .invokeinterface 5 0, .iload 1, .iload 2, .invokestatic 3, .sipush (-1), .iastore, .iinc 2 1, .goto 6, .return_]
noncomputable abbrev fd_o78 : List (Instr × Nat) := [(.iload_n 1, 1), (.invokestatic 48, 3), (.ifCond .ne 4, 3), (.return_, 1), (.iconst 0, 1), (.istore_n 2, 1), (.iload_n 2, 1), (.bipush 24, 2), (.if_icmp .ge 20, 3), (.aload_n 0, 1), (.getfield 9, 3), (.iload_n 1, 1), (.iload_n 2, 1), (.invokestatic 38, 3), (.iconst (-1), 1), (.iastore, 1), (.iinc 2 1, 3), (.goto (-20), 3), (.return_, 1)]
abbrev fd_p78 : List Nat := [0, 1, 4, 7, 8, 9, 10, 11, 13, 16, 17, 20, 21, 22, 25, 26, 27, 30, 33, 34]
-- 79: FoldedStrips$Strip.giveTo(II)V
noncomputable abbrev fd_c79 : List Instr := [.iload 1, .invokestatic 1, .ifCond .eq 8, .aload 0, .invokeinterface 5 1, .iload 1, .iload 2, .iastore, .return_]
noncomputable abbrev fd_o79 : List (Instr × Nat) := [(.iload_n 1, 1), (.invokestatic 48, 3), (.ifCond .eq 10, 3), (.aload_n 0, 1), (.getfield 15, 3), (.iload_n 1, 1), (.iload_n 2, 1), (.iastore, 1), (.return_, 1)]
abbrev fd_p79 : List Nat := [0, 1, 4, 7, 8, 11, 12, 13, 14, 15]
-- 80: FoldedStrips$Strip.link(III)V
noncomputable abbrev fd_c80 : List Instr := [.iload 1, .invokestatic 1, .ifCond .eq 23, .iload 2, .invokestatic 4, .ifCond .eq 23, .iload 3, .invokestatic 4, .ifCond .eq 23, .aload 0, .invokeinterface 5 0, .iload 1, .iload 2, .invokestatic 3, .iload 3, .iastore, .aload 0, .invokeinterface 5 0, .iload 1, .iload 3, .invokestatic 3, .iload 2, .iastore, .return_]
noncomputable abbrev fd_o80 : List (Instr × Nat) := [(.iload_n 1, 1), (.invokestatic 48, 3), (.ifCond .eq 39, 3), (.iload_n 2, 1), (.invokestatic 51, 3), (.ifCond .eq 32, 3), (.iload_n 3, 1), (.invokestatic 51, 3), (.ifCond .eq 25, 3), (.aload_n 0, 1), (.getfield 9, 3), (.iload_n 1, 1), (.iload_n 2, 1), (.invokestatic 38, 3), (.iload_n 3, 1), (.iastore, 1), (.aload_n 0, 1), (.getfield 9, 3), (.iload_n 1, 1), (.iload_n 3, 1), (.invokestatic 38, 3), (.iload_n 2, 1), (.iastore, 1), (.return_, 1)]
abbrev fd_p80 : List Nat := [0, 1, 4, 7, 8, 11, 14, 15, 18, 21, 22, 25, 26, 27, 30, 31, 32, 33, 36, 37, 38, 41, 42, 43, 44]
-- 81: FoldedStrips$Strip.strokesIn(I)I
noncomputable abbrev fd_c81 : List Instr := [.aload 0, .iload 1, .invokestatic 5, .invokevirtual 82, .invokestatic 182, .aload 0, .iload 1, .invokestatic 7, .invokevirtual 82, .invokestatic 182, .iadd, .istore 2, .iload 2, .sipush 2, .idiv, .ireturn]
noncomputable abbrev fd_o81 : List (Instr × Nat) := [(.aload_n 0, 1), (.iload_n 1, 1), (.invokestatic 54, 3), (.invokevirtual 57, 3), (.invokestatic 80, 3), (.aload_n 0, 1), (.iload_n 1, 1), (.invokestatic 60, 3), (.invokevirtual 57, 3), (.invokestatic 80, 3), (.iadd, 1), (.istore_n 2, 1), (.iload_n 2, 1), (.iconst 2, 1), (.idiv, 1), (.ireturn, 1)]
abbrev fd_p81 : List Nat := [0, 1, 2, 5, 8, 11, 12, 13, 16, 19, 22, 23, 24, 25, 26, 27, 28]
-- 82: FoldedStrips$Strip.edgeSet(I)I
noncomputable abbrev fd_c82 : List Instr := [.sipush 0, .istore 2, .sipush 0, .istore 3, .iload 3, .sipush 12, .if_icmp .ge 23, .aload 0, .iload 1, .sipush 12, .imul, .iload 3, .iadd, .invokevirtual 83, .ifCond .eq 21, .iload 2, .sipush 1, .iload 3, .ishl, .ior, .istore 2, .iinc 3 1, .goto 4, .iload 2, .ireturn]
noncomputable abbrev fd_o82 : List (Instr × Nat) := [(.iconst 0, 1), (.istore_n 2, 1), (.iconst 0, 1), (.istore_n 3, 1), (.iload_n 3, 1), (.bipush 12, 2), (.if_icmp .ge 28, 3), (.aload_n 0, 1), (.iload_n 1, 1), (.bipush 12, 2), (.imul, 1), (.iload_n 3, 1), (.iadd, 1), (.invokevirtual 42, 3), (.ifCond .eq 9, 3), (.iload_n 2, 1), (.iconst 1, 1), (.iload_n 3, 1), (.ishl, 1), (.ior, 1), (.istore_n 2, 1), (.iinc 3 1, 3), (.goto (-28), 3), (.iload_n 2, 1), (.ireturn, 1)]
abbrev fd_p82 : List Nat := [0, 1, 2, 3, 4, 5, 7, 10, 11, 12, 14, 15, 16, 17, 20, 23, 24, 25, 26, 27, 28, 29, 32, 35, 36, 37]
-- 83: FoldedStrips$Strip.hasStroke(I)Z
noncomputable abbrev fd_c83 : List Instr := [.iload 1, .invokestatic 6, .ifCond .eq 11, .aload 0, .invokeinterface 5 0, .iload 1, .iaload, .sipush (-1), .if_icmp .eq 11, .sipush 1, .goto 12, .sipush 0, .ireturn]
noncomputable abbrev fd_o83 : List (Instr × Nat) := [(.iload_n 1, 1), (.invokestatic 27, 3), (.ifCond .eq 17, 3), (.aload_n 0, 1), (.getfield 9, 3), (.iload_n 1, 1), (.iaload, 1), (.iconst (-1), 1), (.if_icmp .eq 7, 3), (.iconst 1, 1), (.goto 4, 3), (.iconst 0, 1), (.ireturn, 1)]
abbrev fd_p83 : List Nat := [0, 1, 4, 7, 8, 11, 12, 13, 14, 17, 18, 21, 22, 23]
-- 84: FoldedStrips$Strip.otherEnd(I)I
noncomputable abbrev fd_c84 : List Instr := [.iload 1, .invokestatic 6, .ifCond .eq 8, .aload 0, .invokeinterface 5 0, .iload 1, .iaload, .goto 9, .sipush (-1), .ireturn]
noncomputable abbrev fd_o84 : List (Instr × Nat) := [(.iload_n 1, 1), (.invokestatic 27, 3), (.ifCond .eq 12, 3), (.aload_n 0, 1), (.getfield 9, 3), (.iload_n 1, 1), (.iaload, 1), (.goto 4, 3), (.iconst (-1), 1), (.ireturn, 1)]
abbrev fd_p84 : List Nat := [0, 1, 4, 7, 8, 11, 12, 13, 16, 17, 18]
-- 85: FoldedStrips$Strip.unlink(III)V
noncomputable abbrev fd_c85 : List Instr := [.iload 1, .invokestatic 1, .ifCond .eq 23, .iload 2, .invokestatic 4, .ifCond .eq 23, .iload 3, .invokestatic 4, .ifCond .eq 23, .aload 0, .invokeinterface 5 0, .iload 1, .iload 2, .invokestatic 3, .sipush (-1), .iastore, .aload 0, .invokeinterface 5 0, .iload 1, .iload 3, .invokestatic 3, .sipush (-1), .iastore, .return_]
noncomputable abbrev fd_o85 : List (Instr × Nat) := [(.iload_n 1, 1), (.invokestatic 48, 3), (.ifCond .eq 39, 3), (.iload_n 2, 1), (.invokestatic 51, 3), (.ifCond .eq 32, 3), (.iload_n 3, 1), (.invokestatic 51, 3), (.ifCond .eq 25, 3), (.aload_n 0, 1), (.getfield 9, 3), (.iload_n 1, 1), (.iload_n 2, 1), (.invokestatic 38, 3), (.iconst (-1), 1), (.iastore, 1), (.aload_n 0, 1), (.getfield 9, 3), (.iload_n 1, 1), (.iload_n 3, 1), (.invokestatic 38, 3), (.iconst (-1), 1), (.iastore, 1), (.return_, 1)]
abbrev fd_p85 : List Nat := [0, 1, 4, 7, 8, 11, 14, 15, 18, 21, 22, 25, 26, 27, 30, 31, 32, 33, 36, 37, 38, 41, 42, 43, 44]
-- 86: FoldedStrips$Strip.canShift(II)Z
noncomputable abbrev fd_c86 : List Instr := [.aload 0, .iload 1, .invokestatic 5, .invokevirtual 82, .aload 0, .iload 1, .invokestatic 7, .invokevirtual 82, .ior, .istore 3, .sipush 0, .istore 4, .iload 4, .sipush 12, .if_icmp .ge 40, .iload 4, .iload 2, .iadd, .ifCond .lt 24, .iload 4, .iload 2, .iadd, .sipush 12, .if_icmp .lt 26, .sipush 1, .goto 27, .sipush 0, .istore 5, .iload 5, .ifCond .eq 38, .iload 3, .sipush 1, .iload 4, .ishl, .iand, .ifCond .eq 38, .sipush 0, .ireturn, .iinc 4 1, .goto 12, .sipush 1, .ireturn]
noncomputable abbrev fd_o86 : List (Instr × Nat) := [(.aload_n 0, 1), (.iload_n 1, 1), (.invokestatic 54, 3), (.invokevirtual 57, 3), (.aload_n 0, 1), (.iload_n 1, 1), (.invokestatic 60, 3), (.invokevirtual 57, 3), (.ior, 1), (.istore_n 3, 1), (.iconst 0, 1), (.istore 4, 2), (.iload 4, 2), (.bipush 12, 2), (.if_icmp .ge 48, 3), (.iload 4, 2), (.iload_n 2, 1), (.iadd, 1), (.ifCond .lt 12, 3), (.iload 4, 2), (.iload_n 2, 1), (.iadd, 1), (.bipush 12, 2), (.if_icmp .lt 7, 3), (.iconst 1, 1), (.goto 4, 3), (.iconst 0, 1), (.istore 5, 2), (.iload 5, 2), (.ifCond .eq 14, 3), (.iload_n 3, 1), (.iconst 1, 1), (.iload 4, 2), (.ishl, 1), (.iand, 1), (.ifCond .eq 5, 3), (.iconst 0, 1), (.ireturn, 1), (.iinc 4 1, 3), (.goto (-49), 3), (.iconst 1, 1), (.ireturn, 1)]
abbrev fd_p86 : List Nat := [0, 1, 2, 5, 8, 9, 10, 13, 16, 17, 18, 19, 21, 23, 25, 28, 30, 31, 32, 35, 37, 38, 39, 41, 44, 45, 48, 49, 51, 53, 56, 57, 58, 60, 61, 62, 65, 66, 67, 70, 73, 74, 75]
-- 87: FoldedStrips$Strip.shift(II)V
noncomputable abbrev fd_c87 : List Instr := [.aload 0, .iload 1, .invokevirtual 88, .sipush 0, .istore 3, .iload 3, .sipush 24, .if_icmp .ge 28, .aload 0, .invokeinterface 5 2, .iload 3, .iaload, .sipush (-1), .if_icmp .eq 26, .aload 0, .iload 1, .iload 3, .iload 2, .iadd, .aload 0, .invokeinterface 5 2, .iload 3, .iaload, .iload 2, .iadd, .invokevirtual 80, .iinc 3 1, .goto 5, .return_]
noncomputable abbrev fd_o87 : List (Instr × Nat) := [(.aload_n 0, 1), (.iload_n 1, 1), (.invokevirtual 63, 3), (.iconst 0, 1), (.istore_n 3, 1), (.iload_n 3, 1), (.bipush 24, 2), (.if_icmp .ge 35, 3), (.aload_n 0, 1), (.getfield 18, 3), (.iload_n 3, 1), (.iaload, 1), (.iconst (-1), 1), (.if_icmp .eq 19, 3), (.aload_n 0, 1), (.iload_n 1, 1), (.iload_n 3, 1), (.iload_n 2, 1), (.iadd, 1), (.aload_n 0, 1), (.getfield 18, 3), (.iload_n 3, 1), (.iaload, 1), (.iload_n 2, 1), (.iadd, 1), (.invokevirtual 67, 3), (.iinc 3 1, 3), (.goto (-35), 3), (.return_, 1)]
abbrev fd_p87 : List Nat := [0, 1, 2, 5, 6, 7, 8, 10, 13, 14, 17, 18, 19, 20, 23, 24, 25, 26, 27, 28, 29, 32, 33, 34, 35, 36, 39, 42, 45, 46]
-- 88: FoldedStrips$Strip.liftOff(I)V
noncomputable abbrev fd_c88 : List Instr := [.sipush 0, .istore 2, .iload 2, .sipush 24, .if_icmp .ge 16, .aload 0, .invokeinterface 5 2, .iload 2, .aload 0, .iload 1, .iload 2, .invokestatic 3, .invokevirtual 84, .iastore, .iinc 2 1, .goto 2, .aload 0, .iload 1, .invokevirtual 78, .return_]
noncomputable abbrev fd_o88 : List (Instr × Nat) := [(.iconst 0, 1), (.istore_n 2, 1), (.iload_n 2, 1), (.bipush 24, 2), (.if_icmp .ge 24, 3), (.aload_n 0, 1), (.getfield 18, 3), (.iload_n 2, 1), (.aload_n 0, 1), (.iload_n 1, 1), (.iload_n 2, 1), (.invokestatic 38, 3), (.invokevirtual 31, 3), (.iastore, 1), (.iinc 2 1, 3), (.goto (-24), 3), (.aload_n 0, 1), (.iload_n 1, 1), (.invokevirtual 74, 3), (.return_, 1)]
abbrev fd_p88 : List Nat := [0, 1, 2, 3, 5, 8, 9, 12, 13, 14, 15, 16, 19, 22, 23, 26, 29, 30, 31, 34, 35]
-- 89: FoldedStrips$Strip.looseEnds()I
noncomputable abbrev fd_c89 : List Instr := [.sipush 0, .istore 1, .sipush 0, .istore 2, .iload 2, .sipush 5, .if_icmp .ge 20, .iload 1, .aload 0, .iload 2, .invokevirtual 90, .aload 0, .iload 2, .invokevirtual 91, .ixor, .invokestatic 182, .iadd, .istore 1, .iinc 2 1, .goto 4, .iload 1, .ireturn]
noncomputable abbrev fd_o89 : List (Instr × Nat) := [(.iconst 0, 1), (.istore_n 1, 1), (.iconst 0, 1), (.istore_n 2, 1), (.iload_n 2, 1), (.iconst 5, 1), (.if_icmp .ge 26, 3), (.iload_n 1, 1), (.aload_n 0, 1), (.iload_n 2, 1), (.invokevirtual 94, 3), (.aload_n 0, 1), (.iload_n 2, 1), (.invokevirtual 97, 3), (.ixor, 1), (.invokestatic 80, 3), (.iadd, 1), (.istore_n 1, 1), (.iinc 2 1, 3), (.goto (-25), 3), (.iload_n 1, 1), (.ireturn, 1)]
abbrev fd_p89 : List Nat := [0, 1, 2, 3, 4, 5, 6, 9, 10, 11, 12, 15, 16, 17, 20, 21, 24, 25, 26, 29, 32, 33, 34]
-- 90: FoldedStrips$Strip.marksAt(I)I
noncomputable abbrev fd_c90 : List Instr := [.aload 0, .iload 1, .invokestatic 7, .invokevirtual 82, .ireturn]
noncomputable abbrev fd_o90 : List (Instr × Nat) := [(.aload_n 0, 1), (.iload_n 1, 1), (.invokestatic 60, 3), (.invokevirtual 57, 3), (.ireturn, 1)]
abbrev fd_p90 : List Nat := [0, 1, 2, 5, 8, 9]
-- 91: FoldedStrips$Strip.startsAt(I)I
noncomputable abbrev fd_c91 : List Instr := [.aload 0, .iload 1, .sipush 1, .iadd, .invokestatic 5, .invokevirtual 82, .ireturn]
noncomputable abbrev fd_o91 : List (Instr × Nat) := [(.aload_n 0, 1), (.iload_n 1, 1), (.iconst 1, 1), (.iadd, 1), (.invokestatic 54, 3), (.invokevirtual 57, 3), (.ireturn, 1)]
abbrev fd_p91 : List Nat := [0, 1, 2, 3, 4, 7, 10, 11]
-- 92: FoldedStrips$Strip.flip(II)V
noncomputable abbrev fd_c92 : List Instr := [.aload 0, .iload 1, .invokevirtual 88, .sipush 0, .istore 3, .iload 3, .sipush 24, .if_icmp .ge 28, .aload 0, .invokeinterface 5 2, .iload 3, .iaload, .sipush (-1), .if_icmp .eq 26, .aload 0, .iload 1, .iload 3, .iload 2, .invokestatic 93, .aload 0, .invokeinterface 5 2, .iload 3, .iaload, .iload 2, .invokestatic 93, .invokevirtual 80, .iinc 3 1, .goto 5, .return_]
noncomputable abbrev fd_o92 : List (Instr × Nat) := [(.aload_n 0, 1), (.iload_n 1, 1), (.invokevirtual 63, 3), (.iconst 0, 1), (.istore_n 3, 1), (.iload_n 3, 1), (.bipush 24, 2), (.if_icmp .ge 39, 3), (.aload_n 0, 1), (.getfield 18, 3), (.iload_n 3, 1), (.iaload, 1), (.iconst (-1), 1), (.if_icmp .eq 23, 3), (.aload_n 0, 1), (.iload_n 1, 1), (.iload_n 3, 1), (.iload_n 2, 1), (.invokestatic 71, 3), (.aload_n 0, 1), (.getfield 18, 3), (.iload_n 3, 1), (.iaload, 1), (.iload_n 2, 1), (.invokestatic 71, 3), (.invokevirtual 67, 3), (.iinc 3 1, 3), (.goto (-39), 3), (.return_, 1)]
abbrev fd_p92 : List Nat := [0, 1, 2, 5, 6, 7, 8, 10, 13, 14, 17, 18, 19, 20, 23, 24, 25, 26, 27, 30, 31, 34, 35, 36, 37, 40, 43, 46, 49, 50]
-- 93: FoldedStrips$Strip.turnedEnd(II)I
noncomputable abbrev fd_c93 : List Instr := [.iload 0, .sipush 12, .if_icmp .ge 5, .sipush 1, .goto 6, .sipush 0, .istore 2, .iload 2, .ifCond .eq 11, .iload 0, .goto 14, .iload 0, .sipush 12, .isub, .istore 3, .iload 1, .sipush 1, .if_icmp .eq 22, .sipush 11, .iload 3, .isub, .istore 3, .iload 1, .ifCond .eq 30, .iload 2, .ifCond .ne 28, .sipush 1, .goto 29, .sipush 0, .istore 2, .iload 2, .ifCond .eq 34, .iload 3, .goto 37, .sipush 12, .iload 3, .iadd, .ireturn]
noncomputable abbrev fd_o93 : List (Instr × Nat) := [(.iload_n 0, 1), (.bipush 12, 2), (.if_icmp .ge 7, 3), (.iconst 1, 1), (.goto 4, 3), (.iconst 0, 1), (.istore_n 2, 1), (.iload_n 2, 1), (.ifCond .eq 7, 3), (.iload_n 0, 1), (.goto 7, 3), (.iload_n 0, 1), (.bipush 12, 2), (.isub, 1), (.istore_n 3, 1), (.iload_n 1, 1), (.iconst 1, 1), (.if_icmp .eq 8, 3), (.bipush 11, 2), (.iload_n 3, 1), (.isub, 1), (.istore_n 3, 1), (.iload_n 1, 1), (.ifCond .eq 13, 3), (.iload_n 2, 1), (.ifCond .ne 7, 3), (.iconst 1, 1), (.goto 4, 3), (.iconst 0, 1), (.istore_n 2, 1), (.iload_n 2, 1), (.ifCond .eq 7, 3), (.iload_n 3, 1), (.goto 7, 3), (.bipush 12, 2), (.iload_n 3, 1), (.iadd, 1), (.ireturn, 1)]
abbrev fd_p93 : List Nat := [0, 1, 3, 6, 7, 10, 11, 12, 13, 16, 17, 20, 21, 23, 24, 25, 26, 27, 30, 32, 33, 34, 35, 36, 39, 40, 43, 44, 47, 48, 49, 50, 53, 54, 57, 59, 60, 61, 62]
-- 94: FoldedStrips$Strip.swap(II)V
noncomputable abbrev fd_c94 : List Instr := [.iload 1, .invokestatic 1, .ifCond .eq 6, .iload 2, .invokestatic 1, .ifCond .ne 7, .return_, .sipush 0, .istore 3, .iload 3, .sipush 24, .if_icmp .ge 40, .aload 0, .invokeinterface 5 0, .iload 1, .iload 3, .invokestatic 3, .iaload, .istore 4, .aload 0, .invokeinterface 5 0, .iload 1, .iload 3, .invokestatic 3, .aload 0, .invokeinterface 5 0, .iload 2, .iload 3, .invokestatic 3, .iaload, .iastore, .aload 0, .invokeinterface 5 0, .iload 2, .iload 3, .invokestatic 3, .iload 4, .iastore, .iinc 3 1, .goto 9, .aload 0, .invokeinterface 5 1, .iload 1, .iaload, .istore 3, .aload 0, .invokeinterface 5 1, .iload 1, .aload 0, .invokeinterface 5 1, .iload 2, .iaload, .iastore, .aload 0, .invokeinterface 5 1, .iload 2, .iload 3, .iastore, .return_]
noncomputable abbrev fd_o94 : List (Instr × Nat) := [(.iload_n 1, 1), (.invokestatic 48, 3), (.ifCond .eq 10, 3), (.iload_n 2, 1), (.invokestatic 48, 3), (.ifCond .ne 4, 3), (.return_, 1), (.iconst 0, 1), (.istore_n 3, 1), (.iload_n 3, 1), (.bipush 24, 2), (.if_icmp .ge 53, 3), (.aload_n 0, 1), (.getfield 9, 3), (.iload_n 1, 1), (.iload_n 3, 1), (.invokestatic 38, 3), (.iaload, 1), (.istore 4, 2), (.aload_n 0, 1), (.getfield 9, 3), (.iload_n 1, 1), (.iload_n 3, 1), (.invokestatic 38, 3), (.aload_n 0, 1), (.getfield 9, 3), (.iload_n 2, 1), (.iload_n 3, 1), (.invokestatic 38, 3), (.iaload, 1), (.iastore, 1), (.aload_n 0, 1), (.getfield 9, 3), (.iload_n 2, 1), (.iload_n 3, 1), (.invokestatic 38, 3), (.iload 4, 2), (.iastore, 1), (.iinc 3 1, 3), (.goto (-53), 3), (.aload_n 0, 1), (.getfield 15, 3), (.iload_n 1, 1), (.iaload, 1), (.istore_n 3, 1), (.aload_n 0, 1), (.getfield 15, 3), (.iload_n 1, 1), (.aload_n 0, 1), (.getfield 15, 3), (.iload_n 2, 1), (.iaload, 1), (.iastore, 1), (.aload_n 0, 1), (.getfield 15, 3), (.iload_n 2, 1), (.iload_n 3, 1), (.iastore, 1), (.return_, 1)]
abbrev fd_p94 : List Nat := [0, 1, 4, 7, 8, 11, 14, 15, 16, 17, 18, 20, 23, 24, 27, 28, 29, 32, 33, 35, 36, 39, 40, 41, 44, 45, 48, 49, 50, 53, 54, 55, 56, 59, 60, 61, 64, 66, 67, 70, 73, 74, 77, 78, 79, 80, 81, 84, 85, 86, 89, 90, 91, 92, 93, 96, 97, 98, 99, 100]
-- 95: FoldedStrips$Strip.continueMarks(I)I
noncomputable abbrev fd_c95 : List Instr := [.aload 0, .iload 1, .sipush 1, .isub, .invokevirtual 96, .aload 0, .iload 1, .invokestatic 7, .invokevirtual 82, .sipush (-1), .ixor, .iand, .istore 2, .sipush 0, .istore 3, .iload 3, .sipush 12, .if_icmp .ge 33, .iload 2, .sipush 1, .iload 3, .ishl, .iand, .ifCond .eq 31, .aload 0, .iload 1, .iload 3, .sipush 12, .iload 3, .iadd, .invokevirtual 80, .iinc 3 1, .goto 15, .iload 2, .invokestatic 182, .ireturn]
noncomputable abbrev fd_o95 : List (Instr × Nat) := [(.aload_n 0, 1), (.iload_n 1, 1), (.iconst 1, 1), (.isub, 1), (.invokevirtual 77, 3), (.aload_n 0, 1), (.iload_n 1, 1), (.invokestatic 60, 3), (.invokevirtual 57, 3), (.iconst (-1), 1), (.ixor, 1), (.iand, 1), (.istore_n 2, 1), (.iconst 0, 1), (.istore_n 3, 1), (.iload_n 3, 1), (.bipush 12, 2), (.if_icmp .ge 27, 3), (.iload_n 2, 1), (.iconst 1, 1), (.iload_n 3, 1), (.ishl, 1), (.iand, 1), (.ifCond .eq 13, 3), (.aload_n 0, 1), (.iload_n 1, 1), (.iload_n 3, 1), (.bipush 12, 2), (.iload_n 3, 1), (.iadd, 1), (.invokevirtual 67, 3), (.iinc 3 1, 3), (.goto (-27), 3), (.iload_n 2, 1), (.invokestatic 80, 3), (.ireturn, 1)]
abbrev fd_p95 : List Nat := [0, 1, 2, 3, 4, 7, 8, 9, 12, 15, 16, 17, 18, 19, 20, 21, 22, 24, 27, 28, 29, 30, 31, 32, 35, 36, 37, 38, 40, 41, 42, 45, 48, 51, 52, 55, 56]
-- 96: FoldedStrips$Strip.missedMarksAt(I)I
noncomputable abbrev fd_c96 : List Instr := [.aload 0, .iload 1, .invokevirtual 90, .aload 0, .iload 1, .invokevirtual 91, .sipush (-1), .ixor, .iand, .ireturn]
noncomputable abbrev fd_o96 : List (Instr × Nat) := [(.aload_n 0, 1), (.iload_n 1, 1), (.invokevirtual 94, 3), (.aload_n 0, 1), (.iload_n 1, 1), (.invokevirtual 97, 3), (.iconst (-1), 1), (.ixor, 1), (.iand, 1), (.ireturn, 1)]
abbrev fd_p96 : List Nat := [0, 1, 2, 5, 6, 7, 10, 11, 12, 13, 14]
-- 97: FoldedStrips$Strip.howEndIs(I)I
noncomputable abbrev fd_c97 : List Instr := [.aload 0, .iload 1, .invokevirtual 83, .ifCond .ne 6, .sipush 0, .ireturn, .iload 1, .invokestatic 17, .istore 2, .iload 2, .sipush (-1), .if_icmp .ne 14, .sipush 3, .ireturn, .aload 0, .iload 2, .invokevirtual 83, .ifCond .eq 20, .sipush 1, .goto 21, .sipush 2, .ireturn]
noncomputable abbrev fd_o97 : List (Instr × Nat) := [(.aload_n 0, 1), (.iload_n 1, 1), (.invokevirtual 42, 3), (.ifCond .ne 5, 3), (.iconst 0, 1), (.ireturn, 1), (.iload_n 1, 1), (.invokestatic 45, 3), (.istore_n 2, 1), (.iload_n 2, 1), (.iconst (-1), 1), (.if_icmp .ne 5, 3), (.iconst 3, 1), (.ireturn, 1), (.aload_n 0, 1), (.iload_n 2, 1), (.invokevirtual 42, 3), (.ifCond .eq 7, 3), (.iconst 1, 1), (.goto 4, 3), (.iconst 2, 1), (.ireturn, 1)]
abbrev fd_p97 : List Nat := [0, 1, 2, 5, 8, 9, 10, 11, 14, 15, 16, 17, 20, 21, 22, 23, 24, 27, 30, 31, 34, 35, 36]
-- 98: FoldedStrips$Strip.otherPlace(I)I
noncomputable abbrev fd_c98 : List Instr := [.aload 0, .iload 1, .invokevirtual 84, .istore 2, .iload 2, .sipush (-1), .if_icmp .ne 9, .sipush (-1), .goto 13, .iload 1, .invokestatic 18, .iload 2, .invokestatic 3, .ireturn]
noncomputable abbrev fd_o98 : List (Instr × Nat) := [(.aload_n 0, 1), (.iload_n 1, 1), (.invokevirtual 31, 3), (.istore_n 2, 1), (.iload_n 2, 1), (.iconst (-1), 1), (.if_icmp .ne 7, 3), (.iconst (-1), 1), (.goto 11, 3), (.iload_n 1, 1), (.invokestatic 35, 3), (.iload_n 2, 1), (.invokestatic 38, 3), (.ireturn, 1)]
abbrev fd_p98 : List Nat := [0, 1, 2, 5, 6, 7, 8, 11, 12, 15, 16, 19, 20, 23, 24]
-- 99: FoldedStrips$Strip.handOf(I)I
noncomputable abbrev fd_c99 : List Instr := [.iload 1, .invokestatic 1, .ifCond .eq 8, .aload 0, .invokeinterface 5 1, .iload 1, .iaload, .goto 9, .sipush (-1), .ireturn]
noncomputable abbrev fd_o99 : List (Instr × Nat) := [(.iload_n 1, 1), (.invokestatic 48, 3), (.ifCond .eq 12, 3), (.aload_n 0, 1), (.getfield 15, 3), (.iload_n 1, 1), (.iaload, 1), (.goto 4, 3), (.iconst (-1), 1), (.ireturn, 1)]
abbrev fd_p99 : List Nat := [0, 1, 4, 7, 8, 11, 12, 13, 16, 17, 18]
-- 100: FoldedStrips$Strip.crossingsOf(I)I
noncomputable abbrev fd_c100 : List Instr := [.iload 1, .invokestatic 18, .istore 2, .iload 1, .sipush 24, .irem, .istore 3, .aload 0, .iload 1, .invokevirtual 84, .istore 4, .sipush 0, .istore 5, .sipush 0, .istore 6, .iload 6, .sipush 24, .if_icmp .ge 45, .aload 0, .iload 2, .iload 6, .invokestatic 3, .invokevirtual 84, .istore 7, .iload 6, .iload 7, .if_icmp .ge 29, .sipush 1, .goto 30, .sipush 0, .istore 8, .iload 8, .ifCond .eq 43, .iload 6, .iload 3, .iload 4, .invokestatic 101, .iload 7, .iload 3, .iload 4, .invokestatic 101, .if_icmp .eq 43, .iinc 5 1, .iinc 6 1, .goto 15, .iload 5, .ireturn]
noncomputable abbrev fd_o100 : List (Instr × Nat) := [(.iload_n 1, 1), (.invokestatic 35, 3), (.istore_n 2, 1), (.iload_n 1, 1), (.bipush 24, 2), (.irem, 1), (.istore_n 3, 1), (.aload_n 0, 1), (.iload_n 1, 1), (.invokevirtual 31, 3), (.istore 4, 2), (.iconst 0, 1), (.istore 5, 2), (.iconst 0, 1), (.istore 6, 2), (.iload 6, 2), (.bipush 24, 2), (.if_icmp .ge 62, 3), (.aload_n 0, 1), (.iload_n 2, 1), (.iload 6, 2), (.invokestatic 38, 3), (.invokevirtual 31, 3), (.istore 7, 2), (.iload 6, 2), (.iload 7, 2), (.if_icmp .ge 7, 3), (.iconst 1, 1), (.goto 4, 3), (.iconst 0, 1), (.istore 8, 2), (.iload 8, 2), (.ifCond .eq 25, 3), (.iload 6, 2), (.iload_n 3, 1), (.iload 4, 2), (.invokestatic 114, 3), (.iload 7, 2), (.iload_n 3, 1), (.iload 4, 2), (.invokestatic 114, 3), (.if_icmp .eq 6, 3), (.iinc 5 1, 3), (.iinc 6 1, 3), (.goto (-63), 3), (.iload 5, 2), (.ireturn, 1)]
abbrev fd_p100 : List Nat := [0, 1, 4, 5, 6, 8, 9, 10, 11, 12, 15, 17, 18, 20, 21, 23, 25, 27, 30, 31, 32, 34, 37, 40, 42, 44, 46, 49, 50, 53, 54, 56, 58, 61, 63, 64, 66, 69, 71, 72, 74, 77, 80, 83, 86, 89, 91, 92]
-- 101: FoldedStrips$Strip.isBetween(III)Z
noncomputable abbrev fd_c101 : List Instr := [.iload 0, .invokestatic 102, .istore 3, .iload 1, .invokestatic 102, .iload 2, .invokestatic 102, .pop2, .istore 4, .iload 1, .invokestatic 102, .iload 2, .invokestatic 102, .swap, .istore 5, .iload 4, .iload 3, .if_icmp .ge 23, .iload 3, .iload 5, .if_icmp .ge 23, .sipush 1, .goto 24, .sipush 0, .ireturn]
noncomputable abbrev fd_o101 : List (Instr × Nat) := [(.iload_n 0, 1), (.invokestatic 103, 3), (.istore_n 3, 1), (.iload_n 1, 1), (.invokestatic 103, 3), (.iload_n 2, 1), (.invokestatic 103, 3), (.invokestatic 106, 3), (.istore 4, 2), (.iload_n 1, 1), (.invokestatic 103, 3), (.iload_n 2, 1), (.invokestatic 103, 3), (.invokestatic 111, 3), (.istore 5, 2), (.iload 4, 2), (.iload_n 3, 1), (.if_icmp .ge 13, 3), (.iload_n 3, 1), (.iload 5, 2), (.if_icmp .ge 7, 3), (.iconst 1, 1), (.goto 4, 3), (.iconst 0, 1), (.ireturn, 1)]
abbrev fd_p101 : List Nat := [0, 1, 4, 5, 6, 9, 10, 13, 16, 18, 19, 22, 23, 26, 29, 31, 33, 34, 37, 38, 40, 43, 44, 47, 48, 49]
-- 102: FoldedStrips$Strip.aroundEdge(I)I
noncomputable abbrev fd_c102 : List Instr := [.iload 0, .sipush 12, .if_icmp .ge 5, .iload 0, .goto 10, .sipush 23, .iload 0, .sipush 12, .isub, .isub, .ireturn]
noncomputable abbrev fd_o102 : List (Instr × Nat) := [(.iload_n 0, 1), (.bipush 12, 2), (.if_icmp .ge 7, 3), (.iload_n 0, 1), (.goto 10, 3), (.bipush 23, 2), (.iload_n 0, 1), (.bipush 12, 2), (.isub, 1), (.isub, 1), (.ireturn, 1)]
abbrev fd_p102 : List Nat := [0, 1, 3, 6, 7, 10, 12, 13, 15, 16, 17, 18]
-- 103: FoldedStrips$Strip.crossingPairsIn(I)I
noncomputable abbrev fd_c103 : List Instr := [.sipush 0, .istore 2, .sipush 0, .istore 3, .iload 3, .sipush 24, .if_icmp .ge 24, .iload 3, .aload 0, .iload 1, .iload 3, .invokestatic 3, .invokevirtual 84, .if_icmp .ge 22, .iload 2, .aload 0, .iload 1, .iload 3, .invokestatic 3, .invokevirtual 100, .iadd, .istore 2, .iinc 3 1, .goto 4, .iload 2, .sipush 2, .idiv, .ireturn]
noncomputable abbrev fd_o103 : List (Instr × Nat) := [(.iconst 0, 1), (.istore_n 2, 1), (.iconst 0, 1), (.istore_n 3, 1), (.iload_n 3, 1), (.bipush 24, 2), (.if_icmp .ge 34, 3), (.iload_n 3, 1), (.aload_n 0, 1), (.iload_n 1, 1), (.iload_n 3, 1), (.invokestatic 38, 3), (.invokevirtual 31, 3), (.if_icmp .ge 15, 3), (.iload_n 2, 1), (.aload_n 0, 1), (.iload_n 1, 1), (.iload_n 3, 1), (.invokestatic 38, 3), (.invokevirtual 118, 3), (.iadd, 1), (.istore_n 2, 1), (.iinc 3 1, 3), (.goto (-34), 3), (.iload_n 2, 1), (.iconst 2, 1), (.idiv, 1), (.ireturn, 1)]
abbrev fd_p103 : List Nat := [0, 1, 2, 3, 4, 5, 7, 10, 11, 12, 13, 14, 17, 20, 23, 24, 25, 26, 27, 30, 33, 34, 35, 38, 41, 42, 43, 44, 45]
-- 104: FoldedStrips$Strip.looseEndsIn(I)I
noncomputable abbrev fd_c104 : List Instr := [.sipush 0, .istore 2, .sipush 0, .istore 3, .iload 3, .sipush 24, .if_icmp .ge 17, .aload 0, .iload 1, .iload 3, .invokestatic 3, .invokevirtual 97, .sipush 2, .if_icmp .ne 15, .iinc 2 1, .iinc 3 1, .goto 4, .iload 2, .ireturn]
noncomputable abbrev fd_o104 : List (Instr × Nat) := [(.iconst 0, 1), (.istore_n 2, 1), (.iconst 0, 1), (.istore_n 3, 1), (.iload_n 3, 1), (.bipush 24, 2), (.if_icmp .ge 25, 3), (.aload_n 0, 1), (.iload_n 1, 1), (.iload_n 3, 1), (.invokestatic 38, 3), (.invokevirtual 100, 3), (.iconst 2, 1), (.if_icmp .ne 6, 3), (.iinc 2 1, 3), (.iinc 3 1, 3), (.goto (-25), 3), (.iload_n 2, 1), (.ireturn, 1)]
abbrev fd_p104 : List Nat := [0, 1, 2, 3, 4, 5, 7, 10, 11, 12, 13, 16, 19, 20, 23, 26, 29, 32, 33, 34]
-- 105: FoldedStrips$Strip.strokesDown(I)I
noncomputable abbrev fd_c105 : List Instr := [.sipush 0, .istore 2, .sipush 0, .istore 3, .iload 3, .sipush 12, .if_icmp .ge 17, .aload 0, .iload 1, .iload 3, .invokestatic 3, .invokevirtual 84, .sipush 12, .if_icmp .lt 15, .iinc 2 1, .iinc 3 1, .goto 4, .iload 2, .ireturn]
noncomputable abbrev fd_o105 : List (Instr × Nat) := [(.iconst 0, 1), (.istore_n 2, 1), (.iconst 0, 1), (.istore_n 3, 1), (.iload_n 3, 1), (.bipush 12, 2), (.if_icmp .ge 26, 3), (.aload_n 0, 1), (.iload_n 1, 1), (.iload_n 3, 1), (.invokestatic 38, 3), (.invokevirtual 31, 3), (.bipush 12, 2), (.if_icmp .lt 6, 3), (.iinc 2 1, 3), (.iinc 3 1, 3), (.goto (-26), 3), (.iload_n 2, 1), (.ireturn, 1)]
abbrev fd_p105 : List Nat := [0, 1, 2, 3, 4, 5, 7, 10, 11, 12, 13, 16, 19, 21, 24, 27, 30, 33, 34, 35]
-- 106: FoldedStrips$Strip.unmarkedStartsAt(I)I
noncomputable abbrev fd_c106 : List Instr := [.aload 0, .iload 1, .invokevirtual 91, .aload 0, .iload 1, .invokevirtual 90, .sipush (-1), .ixor, .iand, .ireturn]
noncomputable abbrev fd_o106 : List (Instr × Nat) := [(.aload_n 0, 1), (.iload_n 1, 1), (.invokevirtual 97, 3), (.aload_n 0, 1), (.iload_n 1, 1), (.invokevirtual 94, 3), (.iconst (-1), 1), (.ixor, 1), (.iand, 1), (.ireturn, 1)]
abbrev fd_p106 : List Nat := [0, 1, 2, 5, 6, 7, 10, 11, 12, 13, 14]
-- 107: FoldedStrips$Strip.panelsOf(I)I
noncomputable abbrev fd_c107 : List Instr := [.sipush 0, .istore 2, .sipush 0, .istore 3, .iload 3, .sipush 6, .if_icmp .ge 21, .aload 0, .invokeinterface 5 1, .iload 3, .iaload, .iload 1, .if_icmp .ne 19, .iload 2, .sipush 1, .iload 3, .ishl, .ior, .istore 2, .iinc 3 1, .goto 4, .iload 2, .ireturn]
noncomputable abbrev fd_o107 : List (Instr × Nat) := [(.iconst 0, 1), (.istore_n 2, 1), (.iconst 0, 1), (.istore_n 3, 1), (.iload_n 3, 1), (.bipush 6, 2), (.if_icmp .ge 25, 3), (.aload_n 0, 1), (.getfield 15, 3), (.iload_n 3, 1), (.iaload, 1), (.iload_n 1, 1), (.if_icmp .ne 9, 3), (.iload_n 2, 1), (.iconst 1, 1), (.iload_n 3, 1), (.ishl, 1), (.ior, 1), (.istore_n 2, 1), (.iinc 3 1, 3), (.goto (-25), 3), (.iload_n 2, 1), (.ireturn, 1)]
abbrev fd_p107 : List Nat := [0, 1, 2, 3, 4, 5, 7, 10, 11, 14, 15, 16, 17, 20, 21, 22, 23, 24, 25, 26, 29, 32, 33, 34]
-- 108: FoldedStrips$Strip.strokesOf(I)I
noncomputable abbrev fd_c108 : List Instr := [.sipush 0, .istore 2, .sipush 0, .istore 3, .iload 3, .sipush 6, .if_icmp .ge 21, .aload 0, .invokeinterface 5 1, .iload 3, .iaload, .iload 1, .if_icmp .ne 19, .iload 2, .aload 0, .iload 3, .invokevirtual 81, .iadd, .istore 2, .iinc 3 1, .goto 4, .iload 2, .ireturn]
noncomputable abbrev fd_o108 : List (Instr × Nat) := [(.iconst 0, 1), (.istore_n 2, 1), (.iconst 0, 1), (.istore_n 3, 1), (.iload_n 3, 1), (.bipush 6, 2), (.if_icmp .ge 27, 3), (.aload_n 0, 1), (.getfield 15, 3), (.iload_n 3, 1), (.iaload, 1), (.iload_n 1, 1), (.if_icmp .ne 11, 3), (.iload_n 2, 1), (.aload_n 0, 1), (.iload_n 3, 1), (.invokevirtual 85, 3), (.iadd, 1), (.istore_n 2, 1), (.iinc 3 1, 3), (.goto (-27), 3), (.iload_n 2, 1), (.ireturn, 1)]
abbrev fd_p108 : List Nat := [0, 1, 2, 3, 4, 5, 7, 10, 11, 14, 15, 16, 17, 20, 21, 22, 23, 26, 27, 28, 31, 34, 35, 36]
-- 109: FoldedStrips$Strip.missedMarksOf(I)I
noncomputable abbrev fd_c109 : List Instr := [.sipush 0, .istore 2, .sipush 0, .istore 3, .iload 3, .sipush 5, .if_icmp .ge 23, .aload 0, .iload 3, .sipush 1, .iadd, .invokevirtual 99, .iload 1, .if_icmp .ne 21, .iload 2, .aload 0, .iload 3, .invokevirtual 96, .invokestatic 182, .iadd, .istore 2, .iinc 3 1, .goto 4, .iload 2, .ireturn]
noncomputable abbrev fd_o109 : List (Instr × Nat) := [(.iconst 0, 1), (.istore_n 2, 1), (.iconst 0, 1), (.istore_n 3, 1), (.iload_n 3, 1), (.iconst 5, 1), (.if_icmp .ge 31, 3), (.aload_n 0, 1), (.iload_n 3, 1), (.iconst 1, 1), (.iadd, 1), (.invokevirtual 88, 3), (.iload_n 1, 1), (.if_icmp .ne 14, 3), (.iload_n 2, 1), (.aload_n 0, 1), (.iload_n 3, 1), (.invokevirtual 77, 3), (.invokestatic 80, 3), (.iadd, 1), (.istore_n 2, 1), (.iinc 3 1, 3), (.goto (-30), 3), (.iload_n 2, 1), (.ireturn, 1)]
abbrev fd_p109 : List Nat := [0, 1, 2, 3, 4, 5, 6, 9, 10, 11, 12, 13, 16, 17, 20, 21, 22, 23, 26, 29, 30, 31, 34, 37, 38, 39]
-- 110: FoldedStrips$Strip.unmarkedStartsOf(I)I
noncomputable abbrev fd_c110 : List Instr := [.sipush 0, .istore 2, .sipush 0, .istore 3, .iload 3, .sipush 5, .if_icmp .ge 23, .aload 0, .iload 3, .sipush 1, .iadd, .invokevirtual 99, .iload 1, .if_icmp .ne 21, .iload 2, .aload 0, .iload 3, .invokevirtual 106, .invokestatic 182, .iadd, .istore 2, .iinc 3 1, .goto 4, .iload 2, .ireturn]
noncomputable abbrev fd_o110 : List (Instr × Nat) := [(.iconst 0, 1), (.istore_n 2, 1), (.iconst 0, 1), (.istore_n 3, 1), (.iload_n 3, 1), (.iconst 5, 1), (.if_icmp .ge 31, 3), (.aload_n 0, 1), (.iload_n 3, 1), (.iconst 1, 1), (.iadd, 1), (.invokevirtual 88, 3), (.iload_n 1, 1), (.if_icmp .ne 14, 3), (.iload_n 2, 1), (.aload_n 0, 1), (.iload_n 3, 1), (.invokevirtual 91, 3), (.invokestatic 80, 3), (.iadd, 1), (.istore_n 2, 1), (.iinc 3 1, 3), (.goto (-30), 3), (.iload_n 2, 1), (.ireturn, 1)]
abbrev fd_p110 : List Nat := [0, 1, 2, 3, 4, 5, 6, 9, 10, 11, 12, 13, 16, 17, 20, 21, 22, 23, 26, 29, 30, 31, 34, 37, 38, 39]
-- 111: FoldedStrips$Strip.strokes()I
noncomputable abbrev fd_c111 : List Instr := [.sipush 0, .istore 1, .sipush 0, .istore 2, .iload 2, .sipush 6, .if_icmp .ge 15, .iload 1, .aload 0, .iload 2, .invokevirtual 81, .iadd, .istore 1, .iinc 2 1, .goto 4, .iload 1, .ireturn]
noncomputable abbrev fd_o111 : List (Instr × Nat) := [(.iconst 0, 1), (.istore_n 1, 1), (.iconst 0, 1), (.istore_n 2, 1), (.iload_n 2, 1), (.bipush 6, 2), (.if_icmp .ge 17, 3), (.iload_n 1, 1), (.aload_n 0, 1), (.iload_n 2, 1), (.invokevirtual 85, 3), (.iadd, 1), (.istore_n 1, 1), (.iinc 2 1, 3), (.goto (-17), 3), (.iload_n 1, 1), (.ireturn, 1)]
abbrev fd_p111 : List Nat := [0, 1, 2, 3, 4, 5, 7, 10, 11, 12, 13, 16, 17, 18, 21, 24, 25, 26]
-- 112: FoldedStrips$Strip.freeEnds()I
noncomputable abbrev fd_c112 : List Instr := [.aload 0, .sipush 0, .invokevirtual 82, .invokestatic 182, .aload 0, .sipush 11, .invokevirtual 82, .invokestatic 182, .iadd, .ireturn]
noncomputable abbrev fd_o112 : List (Instr × Nat) := [(.aload_n 0, 1), (.iconst 0, 1), (.invokevirtual 57, 3), (.invokestatic 80, 3), (.aload_n 0, 1), (.bipush 11, 2), (.invokevirtual 57, 3), (.invokestatic 80, 3), (.iadd, 1), (.ireturn, 1)]
abbrev fd_p112 : List Nat := [0, 1, 2, 5, 8, 9, 11, 14, 17, 18, 19]
-- 113: FoldedStrips$Strip.crossingPairs()I
noncomputable abbrev fd_c113 : List Instr := [.sipush 0, .istore 1, .sipush 0, .istore 2, .iload 2, .sipush 6, .if_icmp .ge 15, .iload 1, .aload 0, .iload 2, .invokevirtual 103, .iadd, .istore 1, .iinc 2 1, .goto 4, .iload 1, .ireturn]
noncomputable abbrev fd_o113 : List (Instr × Nat) := [(.iconst 0, 1), (.istore_n 1, 1), (.iconst 0, 1), (.istore_n 2, 1), (.iload_n 2, 1), (.bipush 6, 2), (.if_icmp .ge 17, 3), (.iload_n 1, 1), (.aload_n 0, 1), (.iload_n 2, 1), (.invokevirtual 121, 3), (.iadd, 1), (.istore_n 1, 1), (.iinc 2 1, 3), (.goto (-17), 3), (.iload_n 1, 1), (.ireturn, 1)]
abbrev fd_p113 : List Nat := [0, 1, 2, 3, 4, 5, 7, 10, 11, 12, 13, 16, 17, 18, 21, 24, 25, 26]
-- 114: FoldedStripsModel.join(III)I
noncomputable abbrev fd_c114 : List Instr := [.iload 1, .iload 2, .invokestatic 115, .ifCond .eq 8, .iload 1, .iload 3, .invokestatic 115, .ifCond .ne 10, .sipush (-1), .ireturn, .iload 2, .iload 3, .if_icmp .ne 15, .sipush (-2), .ireturn, .aload 0, .sipush 24, .iload 1, .imul, .iload 2, .iadd, .invokevirtual 118, .ifCond .ne 31, .aload 0, .sipush 24, .iload 1, .imul, .iload 3, .iadd, .invokevirtual 118, .ifCond .eq 33, .sipush (-5), .ireturn, .aload 0, .invokevirtual 119, .aload 0, .iload 1, .iload 2, .iload 3, .invokevirtual 120, .aload 0, .iload 1, .invokevirtual 121, .ireturn]
noncomputable abbrev fd_o114 : List (Instr × Nat) := [(.iload_n 1, 1), (.iload_n 2, 1), (.invokestatic 103, 3), (.ifCond .eq 11, 3), (.iload_n 1, 1), (.iload_n 3, 1), (.invokestatic 103, 3), (.ifCond .ne 5, 3), (.iconst (-1), 1), (.ireturn, 1), (.iload_n 2, 1), (.iload_n 3, 1), (.if_icmp .ne 6, 3), (.bipush (-2), 2), (.ireturn, 1), (.aload_n 0, 1), (.bipush 24, 2), (.iload_n 1, 1), (.imul, 1), (.iload_n 2, 1), (.iadd, 1), (.invokevirtual 70, 3), (.ifCond .ne 16, 3), (.aload_n 0, 1), (.bipush 24, 2), (.iload_n 1, 1), (.imul, 1), (.iload_n 3, 1), (.iadd, 1), (.invokevirtual 70, 3), (.ifCond .eq 6, 3), (.bipush (-5), 2), (.ireturn, 1), (.aload_n 0, 1), (.invokevirtual 107, 3), (.aload_n 0, 1), (.iload_n 1, 1), (.iload_n 2, 1), (.iload_n 3, 1), (.invokevirtual 110, 3), (.aload_n 0, 1), (.iload_n 1, 1), (.invokevirtual 114, 3), (.ireturn, 1)]
abbrev fd_p114 : List Nat := [0, 1, 2, 5, 8, 9, 10, 13, 16, 17, 18, 19, 20, 23, 25, 26, 27, 29, 30, 31, 32, 33, 36, 39, 40, 42, 43, 44, 45, 46, 49, 52, 54, 55, 56, 59, 60, 61, 62, 63, 66, 67, 68, 71, 72]
-- 115: FoldedStripsModel.isEnd(II)Z
noncomputable abbrev fd_c115 : List Instr := [.iload 0, .invokestatic 116, .ifCond .eq 10, .iload 1, .sipush 0, .sipush 23, .invokestatic 117, .ifCond .eq 10, .sipush 1, .goto 11, .sipush 0, .ireturn]
noncomputable abbrev fd_o115 : List (Instr × Nat) := [(.iload_n 0, 1), (.invokestatic 58, 3), (.ifCond .eq 17, 3), (.iload_n 1, 1), (.iconst 0, 1), (.bipush 23, 2), (.invokestatic 54, 3), (.ifCond .eq 7, 3), (.iconst 1, 1), (.goto 4, 3), (.iconst 0, 1), (.ireturn, 1)]
abbrev fd_p115 : List Nat := [0, 1, 4, 7, 8, 9, 11, 14, 17, 18, 21, 22, 23]
-- 116: FoldedStripsModel.isPanel(I)Z
noncomputable abbrev fd_c116 : List Instr := [.iload 0, .sipush 0, .sipush 5, .invokestatic 117, .ireturn]
noncomputable abbrev fd_o116 : List (Instr × Nat) := [(.iload_n 0, 1), (.iconst 0, 1), (.iconst 5, 1), (.invokestatic 54, 3), (.ireturn, 1)]
abbrev fd_p116 : List Nat := [0, 1, 2, 3, 6, 7]
-- 117: FoldedStripsModel.in(III)Z
noncomputable abbrev fd_c117 : List Instr := [.iload 0, .iload 1, .if_icmp .lt 8, .iload 0, .iload 2, .if_icmp .gt 8, .sipush 1, .goto 9, .sipush 0, .ireturn]
noncomputable abbrev fd_o117 : List (Instr × Nat) := [(.iload_n 0, 1), (.iload_n 1, 1), (.if_icmp .lt 12, 3), (.iload_n 0, 1), (.iload_n 2, 1), (.if_icmp .gt 7, 3), (.iconst 1, 1), (.goto 4, 3), (.iconst 0, 1), (.ireturn, 1)]
abbrev fd_p117 : List Nat := [0, 1, 2, 5, 6, 7, 10, 11, 14, 15, 16]
-- 118: FoldedStripsModel.has(I)Z
noncomputable abbrev fd_c118 : List Instr := [.aload 0, .invokeinterface 6 0, .iload 1, .iaload, .ifCond .le 7, .sipush 1, .goto 8, .sipush 0, .ireturn]
noncomputable abbrev fd_o118 : List (Instr × Nat) := [(.aload_n 0, 1), (.getfield 7, 3), (.iload_n 1, 1), (.iaload, 1), (.ifCond .le 7, 3), (.iconst 1, 1), (.goto 4, 3), (.iconst 0, 1), (.ireturn, 1)]
abbrev fd_p118 : List Nat := [0, 1, 4, 5, 6, 9, 10, 13, 14, 15]
-- 119: FoldedStripsModel.record()V
noncomputable abbrev fd_c119 : List Instr := [.aload 0, .invokeinterface 6 16, .sipush 6, .if_icmp .ne 27, .sipush 0, .istore 1, .iload 1, .sipush 750, .if_icmp .ge 21, .aload 0, .invokeinterface 6 3, .iload 1, .aload 0, .invokeinterface 6 3, .sipush 150, .iload 1, .iadd, .iaload, .iastore, .iinc 1 1, .goto 6, .aload 0, .dup, .invokeinterface 6 16, .sipush 1, .isub, .multianewarray 6 16, .sipush 0, .istore 1, .iload 1, .sipush 150, .if_icmp .ge 47, .aload 0, .invokeinterface 6 3, .sipush 150, .aload 0, .invokeinterface 6 16, .imul, .iload 1, .iadd, .aload 0, .invokeinterface 6 0, .iload 1, .iaload, .iastore, .iinc 1 1, .goto 29, .aload 0, .dup, .invokeinterface 6 16, .sipush 1, .iadd, .multianewarray 6 16, .return_]
noncomputable abbrev fd_o119 : List (Instr × Nat) := [(.aload_n 0, 1), (.getfield 62, 3), (.bipush 6, 2), (.if_icmp .ne 44, 3), (.iconst 0, 1), (.istore_n 1, 1), (.iload_n 1, 1), (.sipush 750, 3), (.if_icmp .ge 25, 3), (.aload_n 0, 1), (.getfield 19, 3), (.iload_n 1, 1), (.aload_n 0, 1), (.getfield 19, 3), (.sipush 150, 3), (.iload_n 1, 1), (.iadd, 1), (.iaload, 1), (.iastore, 1), (.iinc 1 1, 3), (.goto (-26), 3), (.aload_n 0, 1), (.dup, 1), (.getfield 62, 3), (.iconst 1, 1), (.isub, 1), (.putfield 62, 3), (.iconst 0, 1), (.istore_n 1, 1), (.iload_n 1, 1), (.sipush 150, 3), (.if_icmp .ge 30, 3), (.aload_n 0, 1), (.getfield 19, 3), (.sipush 150, 3), (.aload_n 0, 1), (.getfield 62, 3), (.imul, 1), (.iload_n 1, 1), (.iadd, 1), (.aload_n 0, 1), (.getfield 7, 3), (.iload_n 1, 1), (.iaload, 1), (.iastore, 1), (.iinc 1 1, 3), (.goto (-31), 3), (.aload_n 0, 1), (.dup, 1), (.getfield 62, 3), (.iconst 1, 1), (.iadd, 1), (.putfield 62, 3), (.return_, 1)]
abbrev fd_p119 : List Nat := [0, 1, 4, 6, 9, 10, 11, 12, 15, 18, 19, 22, 23, 24, 27, 30, 31, 32, 33, 34, 37, 40, 41, 42, 45, 46, 47, 50, 51, 52, 53, 56, 59, 60, 63, 66, 67, 70, 71, 72, 73, 74, 77, 78, 79, 80, 83, 86, 87, 88, 91, 92, 93, 96, 97]
-- 120: FoldedStripsModel.joins(III)V
noncomputable abbrev fd_c120 : List Instr := [.aload 0, .invokeinterface 6 0, .sipush 24, .iload 1, .imul, .iload 2, .iadd, .iload 3, .sipush 1, .iadd, .iastore, .aload 0, .invokeinterface 6 0, .sipush 24, .iload 1, .imul, .iload 3, .iadd, .iload 2, .sipush 1, .iadd, .iastore, .return_]
noncomputable abbrev fd_o120 : List (Instr × Nat) := [(.aload_n 0, 1), (.getfield 7, 3), (.bipush 24, 2), (.iload_n 1, 1), (.imul, 1), (.iload_n 2, 1), (.iadd, 1), (.iload_n 3, 1), (.iconst 1, 1), (.iadd, 1), (.iastore, 1), (.aload_n 0, 1), (.getfield 7, 3), (.bipush 24, 2), (.iload_n 1, 1), (.imul, 1), (.iload_n 3, 1), (.iadd, 1), (.iload_n 2, 1), (.iconst 1, 1), (.iadd, 1), (.iastore, 1), (.return_, 1)]
abbrev fd_p120 : List Nat := [0, 1, 4, 6, 7, 8, 9, 10, 11, 12, 13, 14, 15, 18, 20, 21, 22, 23, 24, 25, 26, 27, 28, 29]
-- 121: FoldedStripsModel.strokesOf(I)I
noncomputable abbrev fd_c121 : List Instr := [.sipush 0, .istore 2, .sipush 0, .istore 3, .iload 3, .sipush 24, .if_icmp .ge 23, .iload 2, .aload 0, .sipush 24, .iload 1, .imul, .iload 3, .iadd, .invokevirtual 118, .ifCond .eq 18, .sipush 1, .goto 19, .sipush 0, .iadd, .istore 2, .iinc 3 1, .goto 4, .iload 2, .sipush 2, .idiv, .ireturn]
noncomputable abbrev fd_o121 : List (Instr × Nat) := [(.iconst 0, 1), (.istore_n 2, 1), (.iconst 0, 1), (.istore_n 3, 1), (.iload_n 3, 1), (.bipush 24, 2), (.if_icmp .ge 30, 3), (.iload_n 2, 1), (.aload_n 0, 1), (.bipush 24, 2), (.iload_n 1, 1), (.imul, 1), (.iload_n 3, 1), (.iadd, 1), (.invokevirtual 70, 3), (.ifCond .eq 7, 3), (.iconst 1, 1), (.goto 4, 3), (.iconst 0, 1), (.iadd, 1), (.istore_n 2, 1), (.iinc 3 1, 3), (.goto (-30), 3), (.iload_n 2, 1), (.iconst 2, 1), (.idiv, 1), (.ireturn, 1)]
abbrev fd_p121 : List Nat := [0, 1, 2, 3, 4, 5, 7, 10, 11, 12, 14, 15, 16, 17, 18, 21, 24, 25, 28, 29, 30, 31, 34, 37, 38, 39, 40, 41]
-- 122: FoldedStripsModel.rub(II)I
noncomputable abbrev fd_c122 : List Instr := [.iload 1, .iload 2, .invokestatic 115, .ifCond .ne 6, .sipush (-1), .ireturn, .aload 0, .sipush 24, .iload 1, .imul, .iload 2, .iadd, .invokevirtual 118, .ifCond .ne 16, .sipush (-5), .ireturn, .aload 0, .invokevirtual 119, .aload 0, .invokeinterface 6 0, .sipush 24, .iload 1, .imul, .iload 2, .iadd, .iaload, .sipush 1, .isub, .istore 3, .aload 0, .invokeinterface 6 0, .sipush 24, .iload 1, .imul, .iload 2, .iadd, .sipush 0, .iastore, .aload 0, .invokeinterface 6 0, .sipush 24, .iload 1, .imul, .iload 3, .iadd, .sipush 0, .iastore, .iload 3, .ireturn]
noncomputable abbrev fd_o122 : List (Instr × Nat) := [(.iload_n 1, 1), (.iload_n 2, 1), (.invokestatic 103, 3), (.ifCond .ne 5, 3), (.iconst (-1), 1), (.ireturn, 1), (.aload_n 0, 1), (.bipush 24, 2), (.iload_n 1, 1), (.imul, 1), (.iload_n 2, 1), (.iadd, 1), (.invokevirtual 70, 3), (.ifCond .ne 6, 3), (.bipush (-5), 2), (.ireturn, 1), (.aload_n 0, 1), (.invokevirtual 107, 3), (.aload_n 0, 1), (.getfield 7, 3), (.bipush 24, 2), (.iload_n 1, 1), (.imul, 1), (.iload_n 2, 1), (.iadd, 1), (.iaload, 1), (.iconst 1, 1), (.isub, 1), (.istore_n 3, 1), (.aload_n 0, 1), (.getfield 7, 3), (.bipush 24, 2), (.iload_n 1, 1), (.imul, 1), (.iload_n 2, 1), (.iadd, 1), (.iconst 0, 1), (.iastore, 1), (.aload_n 0, 1), (.getfield 7, 3), (.bipush 24, 2), (.iload_n 1, 1), (.imul, 1), (.iload_n 3, 1), (.iadd, 1), (.iconst 0, 1), (.iastore, 1), (.iload_n 3, 1), (.ireturn, 1)]
abbrev fd_p122 : List Nat := [0, 1, 2, 5, 8, 9, 10, 11, 13, 14, 15, 16, 17, 20, 23, 25, 26, 27, 30, 31, 34, 36, 37, 38, 39, 40, 41, 42, 43, 44, 45, 48, 50, 51, 52, 53, 54, 55, 56, 57, 60, 62, 63, 64, 65, 66, 67, 68, 69, 70]
-- 123: FoldedStripsModel.clear(I)I
noncomputable abbrev fd_c123 : List Instr := [.iload 1, .invokestatic 116, .ifCond .ne 5, .sipush (-1), .ireturn, .aload 0, .invokevirtual 119, .aload 0, .iload 1, .invokevirtual 121, .istore 2, .aload 0, .iload 1, .invokevirtual 124, .iload 2, .ireturn]
noncomputable abbrev fd_o123 : List (Instr × Nat) := [(.iload_n 1, 1), (.invokestatic 58, 3), (.ifCond .ne 5, 3), (.iconst (-1), 1), (.ireturn, 1), (.aload_n 0, 1), (.invokevirtual 107, 3), (.aload_n 0, 1), (.iload_n 1, 1), (.invokevirtual 114, 3), (.istore_n 2, 1), (.aload_n 0, 1), (.iload_n 1, 1), (.invokevirtual 117, 3), (.iload_n 2, 1), (.ireturn, 1)]
abbrev fd_p123 : List Nat := [0, 1, 4, 7, 8, 9, 10, 13, 14, 15, 18, 19, 20, 21, 24, 25, 26]
-- 124: FoldedStripsModel.rubsAll(I)V
noncomputable abbrev fd_c124 : List Instr := [.sipush 0, .istore 2, .iload 2, .sipush 24, .if_icmp .ge 16, .aload 0, .invokeinterface 6 0, .sipush 24, .iload 1, .imul, .iload 2, .iadd, .sipush 0, .iastore, .iinc 2 1, .goto 2, .return_]
noncomputable abbrev fd_o124 : List (Instr × Nat) := [(.iconst 0, 1), (.istore_n 2, 1), (.iload_n 2, 1), (.bipush 24, 2), (.if_icmp .ge 21, 3), (.aload_n 0, 1), (.getfield 7, 3), (.bipush 24, 2), (.iload_n 1, 1), (.imul, 1), (.iload_n 2, 1), (.iadd, 1), (.iconst 0, 1), (.iastore, 1), (.iinc 2 1, 3), (.goto (-21), 3), (.return_, 1)]
abbrev fd_p124 : List Nat := [0, 1, 2, 3, 5, 8, 9, 12, 14, 15, 16, 17, 18, 19, 20, 23, 26, 27]
-- 125: FoldedStripsModel.slide(II)I
noncomputable abbrev fd_c125 : List Instr := [.iload 1, .invokestatic 116, .ifCond .ne 5, .sipush (-1), .ireturn, .iload 2, .sipush (-11), .sipush 11, .invokestatic 117, .ifCond .eq 12, .iload 2, .ifCond .ne 14, .sipush (-2), .ireturn, .aload 0, .iload 1, .iload 2, .invokevirtual 126, .ifCond .ne 21, .sipush (-5), .ireturn, .aload 0, .invokevirtual 119, .aload 0, .iload 1, .iload 2, .sipush 0, .sipush 0, .invokevirtual 127, .aload 0, .invokevirtual 129, .ireturn]
noncomputable abbrev fd_o125 : List (Instr × Nat) := [(.iload_n 1, 1), (.invokestatic 58, 3), (.ifCond .ne 5, 3), (.iconst (-1), 1), (.ireturn, 1), (.iload_n 2, 1), (.bipush (-11), 2), (.bipush 11, 2), (.invokestatic 54, 3), (.ifCond .eq 7, 3), (.iload_n 2, 1), (.ifCond .ne 6, 3), (.bipush (-2), 2), (.ireturn, 1), (.aload_n 0, 1), (.iload_n 1, 1), (.iload_n 2, 1), (.invokevirtual 124, 3), (.ifCond .ne 6, 3), (.bipush (-5), 2), (.ireturn, 1), (.aload_n 0, 1), (.invokevirtual 107, 3), (.aload_n 0, 1), (.iload_n 1, 1), (.iload_n 2, 1), (.iconst 0, 1), (.iconst 0, 1), (.invokevirtual 127, 3), (.aload_n 0, 1), (.invokevirtual 131, 3), (.ireturn, 1)]
abbrev fd_p125 : List Nat := [0, 1, 4, 7, 8, 9, 10, 12, 14, 17, 20, 21, 24, 26, 27, 28, 29, 30, 33, 36, 38, 39, 40, 43, 44, 45, 46, 47, 48, 51, 52, 55, 56]
-- 126: FoldedStripsModel.canSlide(II)Z
noncomputable abbrev fd_c126 : List Instr := [.sipush 1, .istore 3, .sipush 0, .istore 4, .iload 4, .sipush 24, .if_icmp .ge 32, .iload 3, .ifCond .eq 28, .aload 0, .sipush 24, .iload 1, .imul, .iload 4, .iadd, .invokevirtual 118, .ifCond .eq 26, .iload 4, .sipush 12, .irem, .iload 2, .iadd, .sipush 0, .sipush 11, .invokestatic 117, .ifCond .eq 28, .sipush 1, .goto 29, .sipush 0, .istore 3, .iinc 4 1, .goto 4, .iload 3, .ireturn]
noncomputable abbrev fd_o126 : List (Instr × Nat) := [(.iconst 1, 1), (.istore_n 3, 1), (.iconst 0, 1), (.istore 4, 2), (.iload 4, 2), (.bipush 24, 2), (.if_icmp .ge 49, 3), (.iload_n 3, 1), (.ifCond .eq 37, 3), (.aload_n 0, 1), (.bipush 24, 2), (.iload_n 1, 1), (.imul, 1), (.iload 4, 2), (.iadd, 1), (.invokevirtual 70, 3), (.ifCond .eq 19, 3), (.iload 4, 2), (.bipush 12, 2), (.irem, 1), (.iload_n 2, 1), (.iadd, 1), (.iconst 0, 1), (.bipush 11, 2), (.invokestatic 54, 3), (.ifCond .eq 7, 3), (.iconst 1, 1), (.goto 4, 3), (.iconst 0, 1), (.istore_n 3, 1), (.iinc 4 1, 3), (.goto (-50), 3), (.iload_n 3, 1), (.ireturn, 1)]
abbrev fd_p126 : List Nat := [0, 1, 2, 3, 5, 7, 9, 12, 13, 16, 17, 19, 20, 21, 23, 24, 27, 30, 32, 34, 35, 36, 37, 38, 40, 43, 46, 47, 50, 51, 52, 55, 58, 59, 60]
-- 127: FoldedStripsModel.lays(IIZZ)V
noncomputable abbrev fd_c127 : List Instr := [.sipush 0, .istore 5, .iload 5, .sipush 24, .if_icmp .ge 19, .aload 0, .invokeinterface 6 1, .iload 5, .aload 0, .invokeinterface 6 0, .sipush 24, .iload 1, .imul, .iload 5, .iadd, .iaload, .iastore, .iinc 5 1, .goto 2, .aload 0, .iload 1, .invokevirtual 124, .sipush 0, .istore 5, .iload 5, .sipush 24, .if_icmp .ge 60, .aload 0, .invokeinterface 6 1, .iload 5, .iaload, .ifCond .le 58, .aload 0, .invokeinterface 6 1, .iload 5, .iaload, .sipush 1, .isub, .iload 2, .iload 3, .iload 4, .invokestatic 128, .istore 6, .aload 0, .invokeinterface 6 0, .sipush 24, .iload 1, .imul, .iload 5, .iload 2, .iload 3, .iload 4, .invokestatic 128, .iadd, .iload 6, .sipush 1, .iadd, .iastore, .iinc 5 1, .goto 24, .return_]
noncomputable abbrev fd_o127 : List (Instr × Nat) := [(.iconst 0, 1), (.istore 5, 2), (.iload 5, 2), (.bipush 24, 2), (.if_icmp .ge 28, 3), (.aload_n 0, 1), (.getfield 13, 3), (.iload 5, 2), (.aload_n 0, 1), (.getfield 7, 3), (.bipush 24, 2), (.iload_n 1, 1), (.imul, 1), (.iload 5, 2), (.iadd, 1), (.iaload, 1), (.iastore, 1), (.iinc 5 1, 3), (.goto (-29), 3), (.aload_n 0, 1), (.iload_n 1, 1), (.invokevirtual 117, 3), (.iconst 0, 1), (.istore 5, 2), (.iload 5, 2), (.bipush 24, 2), (.if_icmp .ge 60, 3), (.aload_n 0, 1), (.getfield 13, 3), (.iload 5, 2), (.iaload, 1), (.ifCond .le 44, 3), (.aload_n 0, 1), (.getfield 13, 3), (.iload 5, 2), (.iaload, 1), (.iconst 1, 1), (.isub, 1), (.iload_n 2, 1), (.iload_n 3, 1), (.iload 4, 2), (.invokestatic 120, 3), (.istore 6, 2), (.aload_n 0, 1), (.getfield 7, 3), (.bipush 24, 2), (.iload_n 1, 1), (.imul, 1), (.iload 5, 2), (.iload_n 2, 1), (.iload_n 3, 1), (.iload 4, 2), (.invokestatic 120, 3), (.iadd, 1), (.iload 6, 2), (.iconst 1, 1), (.iadd, 1), (.iastore, 1), (.iinc 5 1, 3), (.goto (-61), 3), (.return_, 1)]
abbrev fd_p127 : List Nat := [0, 1, 3, 5, 7, 10, 11, 14, 16, 17, 20, 22, 23, 24, 26, 27, 28, 29, 32, 35, 36, 37, 40, 41, 43, 45, 47, 50, 51, 54, 56, 57, 60, 61, 64, 66, 67, 68, 69, 70, 71, 73, 76, 78, 79, 82, 84, 85, 86, 88, 89, 90, 92, 95, 96, 98, 99, 100, 101, 104, 107, 108]
-- 128: FoldedStripsModel.moved(IIZZ)I
noncomputable abbrev fd_c128 : List Instr := [.iload 0, .sipush 12, .irem, .iload 1, .iadd, .istore 4, .iload 0, .sipush 12, .idiv, .sipush 1, .if_icmp .ne 13, .sipush 1, .goto 14, .sipush 0, .iload 3, .if_icmp .ne 18, .sipush 0, .goto 19, .sipush 12, .istore 5, .iload 5, .iload 2, .ifCond .eq 27, .sipush 11, .iload 4, .isub, .goto 28, .iload 4, .iadd, .ireturn]
noncomputable abbrev fd_o128 : List (Instr × Nat) := [(.iload_n 0, 1), (.bipush 12, 2), (.irem, 1), (.iload_n 1, 1), (.iadd, 1), (.istore 4, 2), (.iload_n 0, 1), (.bipush 12, 2), (.idiv, 1), (.iconst 1, 1), (.if_icmp .ne 7, 3), (.iconst 1, 1), (.goto 4, 3), (.iconst 0, 1), (.iload_n 3, 1), (.if_icmp .ne 7, 3), (.iconst 0, 1), (.goto 5, 3), (.bipush 12, 2), (.istore 5, 2), (.iload 5, 2), (.iload_n 2, 1), (.ifCond .eq 11, 3), (.bipush 11, 2), (.iload 4, 2), (.isub, 1), (.goto 5, 3), (.iload 4, 2), (.iadd, 1), (.ireturn, 1)]
abbrev fd_p128 : List Nat := [0, 1, 3, 4, 5, 6, 8, 9, 11, 12, 13, 16, 17, 20, 21, 22, 25, 26, 29, 31, 33, 35, 36, 39, 41, 43, 44, 47, 49, 50, 51]
-- 129: FoldedStripsModel.loose()I
noncomputable abbrev fd_c129 : List Instr := [.aload 0, .sipush 0, .sipush 5, .sipush 2, .invokevirtual 130, .ireturn]
noncomputable abbrev fd_o129 : List (Instr × Nat) := [(.aload_n 0, 1), (.iconst 0, 1), (.iconst 5, 1), (.iconst 2, 1), (.invokevirtual 76, 3), (.ireturn, 1)]
abbrev fd_p129 : List Nat := [0, 1, 2, 3, 4, 7, 8]
-- 130: FoldedStripsModel.ends(III)I
noncomputable abbrev fd_c130 : List Instr := [.sipush 0, .istore 4, .sipush 24, .iload 1, .imul, .istore 5, .iload 5, .sipush 24, .iload 2, .imul, .sipush 24, .iadd, .if_icmp .ge 26, .iload 4, .aload 0, .iload 5, .invokevirtual 131, .iload 3, .if_icmp .ne 21, .sipush 1, .goto 22, .sipush 0, .iadd, .istore 4, .iinc 5 1, .goto 6, .iload 4, .ireturn]
noncomputable abbrev fd_o130 : List (Instr × Nat) := [(.iconst 0, 1), (.istore 4, 2), (.bipush 24, 2), (.iload_n 1, 1), (.imul, 1), (.istore 5, 2), (.iload 5, 2), (.bipush 24, 2), (.iload_n 2, 1), (.imul, 1), (.bipush 24, 2), (.iadd, 1), (.if_icmp .ge 29, 3), (.iload 4, 2), (.aload_n 0, 1), (.iload 5, 2), (.invokevirtual 73, 3), (.iload_n 3, 1), (.if_icmp .ne 7, 3), (.iconst 1, 1), (.goto 4, 3), (.iconst 0, 1), (.iadd, 1), (.istore 4, 2), (.iinc 5 1, 3), (.goto (-35), 3), (.iload 4, 2), (.ireturn, 1)]
abbrev fd_p130 : List Nat := [0, 1, 3, 5, 6, 7, 9, 11, 13, 14, 15, 17, 18, 21, 23, 24, 26, 29, 30, 33, 34, 37, 38, 39, 41, 44, 47, 49, 50]
-- 131: FoldedStripsModel.how(I)I
noncomputable abbrev fd_c131 : List Instr := [.iload 1, .invokestatic 132, .istore 2, .aload 0, .iload 1, .invokevirtual 118, .ifCond .ne 9, .sipush 0, .goto 21, .iload 2, .sipush (-6), .if_icmp .ne 14, .sipush 3, .goto 21, .aload 0, .iload 2, .invokevirtual 118, .ifCond .eq 20, .sipush 1, .goto 21, .sipush 2, .ireturn]
noncomputable abbrev fd_o131 : List (Instr × Nat) := [(.iload_n 1, 1), (.invokestatic 66, 3), (.istore_n 2, 1), (.aload_n 0, 1), (.iload_n 1, 1), (.invokevirtual 70, 3), (.ifCond .ne 7, 3), (.iconst 0, 1), (.goto 26, 3), (.iload_n 2, 1), (.bipush (-6), 2), (.if_icmp .ne 7, 3), (.iconst 3, 1), (.goto 16, 3), (.aload_n 0, 1), (.iload_n 2, 1), (.invokevirtual 70, 3), (.ifCond .eq 7, 3), (.iconst 1, 1), (.goto 4, 3), (.iconst 2, 1), (.ireturn, 1)]
abbrev fd_p131 : List Nat := [0, 1, 4, 5, 6, 7, 10, 13, 14, 17, 18, 20, 23, 24, 27, 28, 29, 32, 35, 36, 39, 40, 41]
-- 132: FoldedStripsModel.neighbour(I)I
noncomputable abbrev fd_c132 : List Instr := [.iload 0, .sipush 24, .irem, .sipush 12, .if_icmp .ge 9, .iload 0, .sipush 12, .isub, .goto 12, .iload 0, .sipush 12, .iadd, .istore 1, .iload 1, .sipush 0, .sipush 143, .invokestatic 117, .ifCond .eq 20, .iload 1, .goto 21, .sipush (-6), .ireturn]
noncomputable abbrev fd_o132 : List (Instr × Nat) := [(.iload_n 0, 1), (.bipush 24, 2), (.irem, 1), (.bipush 12, 2), (.if_icmp .ge 10, 3), (.iload_n 0, 1), (.bipush 12, 2), (.isub, 1), (.goto 7, 3), (.iload_n 0, 1), (.bipush 12, 2), (.iadd, 1), (.istore_n 1, 1), (.iload_n 1, 1), (.iconst 0, 1), (.sipush 143, 3), (.invokestatic 54, 3), (.ifCond .eq 7, 3), (.iload_n 1, 1), (.goto 5, 3), (.bipush (-6), 2), (.ireturn, 1)]
abbrev fd_p132 : List Nat := [0, 1, 3, 4, 6, 9, 10, 12, 13, 16, 17, 19, 20, 21, 22, 23, 26, 29, 32, 33, 36, 38, 39]
-- 133: FoldedStripsModel.turn(II)I
noncomputable abbrev fd_c133 : List Instr := [.iload 1, .invokestatic 116, .ifCond .ne 5, .sipush (-1), .ireturn, .iload 2, .sipush 0, .sipush 2, .invokestatic 117, .ifCond .ne 12, .sipush (-2), .ireturn, .aload 0, .invokevirtual 119, .aload 0, .iload 1, .sipush 0, .iload 2, .sipush 1, .if_icmp .eq 22, .sipush 1, .goto 23, .sipush 0, .iload 2, .ifCond .eq 27, .sipush 1, .goto 28, .sipush 0, .invokevirtual 127, .aload 0, .invokevirtual 129, .ireturn]
noncomputable abbrev fd_o133 : List (Instr × Nat) := [(.iload_n 1, 1), (.invokestatic 58, 3), (.ifCond .ne 5, 3), (.iconst (-1), 1), (.ireturn, 1), (.iload_n 2, 1), (.iconst 0, 1), (.iconst 2, 1), (.invokestatic 54, 3), (.ifCond .ne 6, 3), (.bipush (-2), 2), (.ireturn, 1), (.aload_n 0, 1), (.invokevirtual 107, 3), (.aload_n 0, 1), (.iload_n 1, 1), (.iconst 0, 1), (.iload_n 2, 1), (.iconst 1, 1), (.if_icmp .eq 7, 3), (.iconst 1, 1), (.goto 4, 3), (.iconst 0, 1), (.iload_n 2, 1), (.ifCond .eq 7, 3), (.iconst 1, 1), (.goto 4, 3), (.iconst 0, 1), (.invokevirtual 127, 3), (.aload_n 0, 1), (.invokevirtual 131, 3), (.ireturn, 1)]
abbrev fd_p133 : List Nat := [0, 1, 4, 7, 8, 9, 10, 11, 12, 15, 18, 20, 21, 22, 25, 26, 27, 28, 29, 30, 33, 34, 37, 38, 39, 42, 43, 46, 47, 50, 51, 54, 55]
-- 134: FoldedStripsModel.exchange(II)I
noncomputable abbrev fd_c134 : List Instr := [.iload 1, .invokestatic 116, .ifCond .eq 6, .iload 2, .invokestatic 116, .ifCond .ne 8, .sipush (-1), .ireturn, .iload 1, .iload 2, .if_icmp .ne 13, .sipush (-5), .ireturn, .aload 0, .invokevirtual 119, .aload 0, .iload 1, .iload 2, .invokevirtual 135, .aload 0, .invokevirtual 129, .ireturn]
noncomputable abbrev fd_o134 : List (Instr × Nat) := [(.iload_n 1, 1), (.invokestatic 58, 3), (.ifCond .eq 10, 3), (.iload_n 2, 1), (.invokestatic 58, 3), (.ifCond .ne 5, 3), (.iconst (-1), 1), (.ireturn, 1), (.iload_n 1, 1), (.iload_n 2, 1), (.if_icmp .ne 6, 3), (.bipush (-5), 2), (.ireturn, 1), (.aload_n 0, 1), (.invokevirtual 107, 3), (.aload_n 0, 1), (.iload_n 1, 1), (.iload_n 2, 1), (.invokevirtual 135, 3), (.aload_n 0, 1), (.invokevirtual 131, 3), (.ireturn, 1)]
abbrev fd_p134 : List Nat := [0, 1, 4, 7, 8, 11, 14, 15, 16, 17, 18, 21, 23, 24, 25, 28, 29, 30, 31, 34, 35, 38, 39]
-- 135: FoldedStripsModel.exchanges(II)V
noncomputable abbrev fd_c135 : List Instr := [.sipush 0, .istore 3, .iload 3, .sipush 24, .if_icmp .ge 41, .aload 0, .invokeinterface 6 0, .sipush 24, .iload 1, .imul, .iload 3, .iadd, .iaload, .istore 4, .aload 0, .invokeinterface 6 0, .sipush 24, .iload 1, .imul, .iload 3, .iadd, .aload 0, .invokeinterface 6 0, .sipush 24, .iload 2, .imul, .iload 3, .iadd, .iaload, .iastore, .aload 0, .invokeinterface 6 0, .sipush 24, .iload 2, .imul, .iload 3, .iadd, .iload 4, .iastore, .iinc 3 1, .goto 2, .aload 0, .invokeinterface 6 0, .sipush 144, .iload 1, .iadd, .iaload, .istore 3, .aload 0, .invokeinterface 6 0, .sipush 144, .iload 1, .iadd, .aload 0, .invokeinterface 6 0, .sipush 144, .iload 2, .iadd, .iaload, .iastore, .aload 0, .invokeinterface 6 0, .sipush 144, .iload 2, .iadd, .iload 3, .iastore, .return_]
noncomputable abbrev fd_o135 : List (Instr × Nat) := [(.iconst 0, 1), (.istore_n 3, 1), (.iload_n 3, 1), (.bipush 24, 2), (.if_icmp .ge 57, 3), (.aload_n 0, 1), (.getfield 7, 3), (.bipush 24, 2), (.iload_n 1, 1), (.imul, 1), (.iload_n 3, 1), (.iadd, 1), (.iaload, 1), (.istore 4, 2), (.aload_n 0, 1), (.getfield 7, 3), (.bipush 24, 2), (.iload_n 1, 1), (.imul, 1), (.iload_n 3, 1), (.iadd, 1), (.aload_n 0, 1), (.getfield 7, 3), (.bipush 24, 2), (.iload_n 2, 1), (.imul, 1), (.iload_n 3, 1), (.iadd, 1), (.iaload, 1), (.iastore, 1), (.aload_n 0, 1), (.getfield 7, 3), (.bipush 24, 2), (.iload_n 2, 1), (.imul, 1), (.iload_n 3, 1), (.iadd, 1), (.iload 4, 2), (.iastore, 1), (.iinc 3 1, 3), (.goto (-57), 3), (.aload_n 0, 1), (.getfield 7, 3), (.sipush 144, 3), (.iload_n 1, 1), (.iadd, 1), (.iaload, 1), (.istore_n 3, 1), (.aload_n 0, 1), (.getfield 7, 3), (.sipush 144, 3), (.iload_n 1, 1), (.iadd, 1), (.aload_n 0, 1), (.getfield 7, 3), (.sipush 144, 3), (.iload_n 2, 1), (.iadd, 1), (.iaload, 1), (.iastore, 1), (.aload_n 0, 1), (.getfield 7, 3), (.sipush 144, 3), (.iload_n 2, 1), (.iadd, 1), (.iload_n 3, 1), (.iastore, 1), (.return_, 1)]
abbrev fd_p135 : List Nat := [0, 1, 2, 3, 5, 8, 9, 12, 14, 15, 16, 17, 18, 19, 21, 22, 25, 27, 28, 29, 30, 31, 32, 35, 37, 38, 39, 40, 41, 42, 43, 44, 47, 49, 50, 51, 52, 53, 55, 56, 59, 62, 63, 66, 69, 70, 71, 72, 73, 74, 77, 80, 81, 82, 83, 86, 89, 90, 91, 92, 93, 94, 97, 100, 101, 102, 103, 104, 105]
-- 136: FoldedStripsModel.takeUp(I)I
noncomputable abbrev fd_c136 : List Instr := [.iload 1, .sipush 1, .sipush 5, .invokestatic 117, .ifCond .ne 7, .sipush (-1), .ireturn, .aload 0, .invokevirtual 119, .sipush 0, .istore 2, .sipush 0, .istore 3, .iload 3, .sipush 12, .if_icmp .ge 48, .sipush 24, .iload 1, .imul, .iload 3, .iadd, .istore 4, .aload 0, .iload 4, .sipush 12, .isub, .invokevirtual 118, .ifCond .eq 46, .aload 0, .iload 4, .invokevirtual 118, .ifCond .ne 46, .aload 0, .iload 4, .sipush 12, .iadd, .invokevirtual 118, .ifCond .ne 46, .aload 0, .iload 1, .iload 3, .sipush 12, .iload 3, .iadd, .invokevirtual 120, .iinc 2 1, .iinc 3 1, .goto 13, .iload 2, .ireturn]
noncomputable abbrev fd_o136 : List (Instr × Nat) := [(.iload_n 1, 1), (.iconst 1, 1), (.iconst 5, 1), (.invokestatic 54, 3), (.ifCond .ne 5, 3), (.iconst (-1), 1), (.ireturn, 1), (.aload_n 0, 1), (.invokevirtual 107, 3), (.iconst 0, 1), (.istore_n 2, 1), (.iconst 0, 1), (.istore_n 3, 1), (.iload_n 3, 1), (.bipush 12, 2), (.if_icmp .ge 63, 3), (.bipush 24, 2), (.iload_n 1, 1), (.imul, 1), (.iload_n 3, 1), (.iadd, 1), (.istore 4, 2), (.aload_n 0, 1), (.iload 4, 2), (.bipush 12, 2), (.isub, 1), (.invokevirtual 70, 3), (.ifCond .eq 37, 3), (.aload_n 0, 1), (.iload 4, 2), (.invokevirtual 70, 3), (.ifCond .ne 28, 3), (.aload_n 0, 1), (.iload 4, 2), (.bipush 12, 2), (.iadd, 1), (.invokevirtual 70, 3), (.ifCond .ne 16, 3), (.aload_n 0, 1), (.iload_n 1, 1), (.iload_n 3, 1), (.bipush 12, 2), (.iload_n 3, 1), (.iadd, 1), (.invokevirtual 110, 3), (.iinc 2 1, 3), (.iinc 3 1, 3), (.goto (-63), 3), (.iload_n 2, 1), (.ireturn, 1)]
abbrev fd_p136 : List Nat := [0, 1, 2, 3, 6, 9, 10, 11, 12, 15, 16, 17, 18, 19, 20, 22, 25, 27, 28, 29, 30, 31, 33, 34, 36, 38, 39, 42, 45, 46, 48, 51, 54, 55, 57, 59, 60, 63, 66, 67, 68, 69, 71, 72, 73, 76, 79, 82, 85, 86, 87]
-- 137: FoldedStripsModel.draw(II)I
noncomputable abbrev fd_c137 : List Instr := [.iload 1, .invokestatic 116, .ifCond .ne 5, .sipush (-1), .ireturn, .iload 2, .sipush 0, .sipush 5, .invokestatic 117, .ifCond .ne 12, .sipush (-2), .ireturn, .aload 0, .invokevirtual 138, .ifCond .lt 17, .sipush (-3), .ireturn, .aload 0, .invokevirtual 119, .aload 0, .iload 1, .invokevirtual 124, .sipush 0, .istore 3, .iload 3, .aload 0, .invokeinterface 6 17, .if_icmp .ge 47, .aload 0, .iload 1, .aload 0, .invokeinterface 6 12, .sipush 2, .iload 3, .imul, .iaload, .aload 0, .invokeinterface 6 12, .sipush 2, .iload 3, .imul, .sipush 1, .iadd, .iaload, .invokevirtual 120, .iinc 3 1, .goto 24, .aload 0, .invokeinterface 6 0, .sipush 144, .iload 1, .iadd, .iload 2, .iastore, .aload 0, .sipush 0, .multianewarray 6 15, .aload 0, .invokeinterface 6 17, .ireturn]
noncomputable abbrev fd_o137 : List (Instr × Nat) := [(.iload_n 1, 1), (.invokestatic 58, 3), (.ifCond .ne 5, 3), (.iconst (-1), 1), (.ireturn, 1), (.iload_n 2, 1), (.iconst 0, 1), (.iconst 5, 1), (.invokestatic 54, 3), (.ifCond .ne 6, 3), (.bipush (-2), 2), (.ireturn, 1), (.aload_n 0, 1), (.invokevirtual 181, 3), (.ifCond .lt 6, 3), (.bipush (-3), 2), (.ireturn, 1), (.aload_n 0, 1), (.invokevirtual 107, 3), (.aload_n 0, 1), (.iload_n 1, 1), (.invokevirtual 117, 3), (.iconst 0, 1), (.istore_n 3, 1), (.iload_n 3, 1), (.aload_n 0, 1), (.getfield 171, 3), (.if_icmp .ge 32, 3), (.aload_n 0, 1), (.iload_n 1, 1), (.aload_n 0, 1), (.getfield 47, 3), (.iconst 2, 1), (.iload_n 3, 1), (.imul, 1), (.iaload, 1), (.aload_n 0, 1), (.getfield 47, 3), (.iconst 2, 1), (.iload_n 3, 1), (.imul, 1), (.iconst 1, 1), (.iadd, 1), (.iaload, 1), (.invokevirtual 110, 3), (.iinc 3 1, 3), (.goto (-34), 3), (.aload_n 0, 1), (.getfield 7, 3), (.sipush 144, 3), (.iload_n 1, 1), (.iadd, 1), (.iload_n 2, 1), (.iastore, 1), (.aload_n 0, 1), (.iconst 0, 1), (.putfield 142, 3), (.aload_n 0, 1), (.getfield 171, 3), (.ireturn, 1)]
abbrev fd_p137 : List Nat := [0, 1, 4, 7, 8, 9, 10, 11, 12, 15, 18, 20, 21, 22, 25, 28, 30, 31, 32, 35, 36, 37, 40, 41, 42, 43, 44, 47, 50, 51, 52, 53, 56, 57, 58, 59, 60, 61, 64, 65, 66, 67, 68, 69, 70, 73, 76, 79, 80, 83, 86, 87, 88, 89, 90, 91, 92, 95, 96, 99, 100]
-- 138: FoldedStripsModel.faultOf()I
noncomputable abbrev fd_c138 : List Instr := [.aload 0, .sipush 0, .multianewarray 6 18, .aload 0, .sipush 0, .multianewarray 6 17, .aload 0, .sipush 0, .multianewarray 6 19, .aload 0, .invokevirtual 139, .istore 1, .iload 1, .ifCond .eq 33, .aload 0, .invokeinterface 6 18, .aload 0, .invokeinterface 6 15, .if_icmp .ge 33, .aload 0, .sipush 59, .aload 0, .invokevirtual 147, .invokevirtual 146, .ifCond .eq 30, .aload 0, .invokevirtual 139, .ifCond .eq 30, .sipush 1, .goto 31, .sipush 0, .istore 1, .goto 12, .iload 1, .ifCond .eq 37, .sipush (-1), .goto 39, .aload 0, .invokeinterface 6 18, .ireturn]
noncomputable abbrev fd_o138 : List (Instr × Nat) := [(.aload_n 0, 1), (.iconst 0, 1), (.putfield 139, 3), (.aload_n 0, 1), (.iconst 0, 1), (.putfield 171, 3), (.aload_n 0, 1), (.iconst 0, 1), (.putfield 149, 3), (.aload_n 0, 1), (.invokevirtual 174, 3), (.istore_n 1, 1), (.iload_n 1, 1), (.ifCond .eq 43, 3), (.aload_n 0, 1), (.getfield 139, 3), (.aload_n 0, 1), (.getfield 142, 3), (.if_icmp .ge 32, 3), (.aload_n 0, 1), (.bipush 59, 2), (.aload_n 0, 1), (.invokevirtual 178, 3), (.invokevirtual 167, 3), (.ifCond .eq 14, 3), (.aload_n 0, 1), (.invokevirtual 174, 3), (.ifCond .eq 7, 3), (.iconst 1, 1), (.goto 4, 3), (.iconst 0, 1), (.istore_n 1, 1), (.goto (-41), 3), (.iload_n 1, 1), (.ifCond .eq 7, 3), (.iconst (-1), 1), (.goto 7, 3), (.aload_n 0, 1), (.getfield 139, 3), (.ireturn, 1)]
abbrev fd_p138 : List Nat := [0, 1, 2, 5, 6, 7, 10, 11, 12, 15, 16, 19, 20, 21, 24, 25, 28, 29, 32, 35, 36, 38, 39, 42, 45, 48, 49, 52, 55, 56, 59, 60, 61, 64, 65, 68, 69, 72, 73, 76, 77]
-- 139: FoldedStripsModel.readsStroke()Z
noncomputable abbrev fd_c139 : List Instr := [.aload 0, .sipush 97, .sipush 108, .invokevirtual 140, .ifCond .eq 13, .aload 0, .invokeinterface 6 13, .aload 0, .invokeinterface 6 18, .caload, .sipush 97, .isub, .goto 14, .sipush (-1), .istore 1, .iload 1, .ifCond .lt 29, .aload 0, .iload 1, .invokevirtual 141, .ifCond .ne 31, .aload 0, .iload 1, .invokevirtual 144, .ifCond .ne 31, .aload 0, .iload 1, .invokevirtual 145, .ifCond .ne 31, .sipush 0, .ireturn, .aload 0, .dup, .invokeinterface 6 18, .sipush 1, .iadd, .multianewarray 6 18, .aload 0, .sipush 124, .aload 0, .iload 1, .invokevirtual 141, .invokevirtual 146, .istore 2, .iload 2, .ifCond .ne 55, .aload 0, .sipush 94, .aload 0, .iload 1, .invokevirtual 144, .invokevirtual 146, .ifCond .eq 55, .sipush 1, .goto 56, .sipush 0, .istore 3, .iload 2, .ifCond .ne 70, .iload 3, .ifCond .ne 70, .aload 0, .sipush 95, .aload 0, .iload 1, .invokevirtual 145, .invokevirtual 146, .ifCond .eq 70, .sipush 1, .goto 71, .sipush 0, .istore 4, .iload 2, .ifCond .ne 80, .iload 3, .ifCond .ne 80, .iload 4, .ifCond .ne 80, .sipush 0, .ireturn, .iload 4, .ifCond .eq 86, .sipush 12, .iload 1, .iadd, .goto 87, .iload 1, .istore 5, .aload 0, .sipush 97, .sipush 108, .invokevirtual 140, .ifCond .eq 107, .aload 0, .invokeinterface 6 13, .aload 0, .invokeinterface 6 18, .caload, .sipush 97, .isub, .iload 3, .ifCond .eq 104, .sipush 0, .goto 105, .sipush 12, .iadd, .goto 108, .sipush (-1), .istore 6, .iload 6, .ifCond .lt 120, .aload 0, .iload 6, .invokevirtual 142, .ifCond .eq 120, .iload 2, .ifCond .ne 122, .iload 6, .iload 5, .if_icmp .gt 122, .sipush 0, .ireturn, .aload 0, .dup, .invokeinterface 6 18, .sipush 1, .iadd, .multianewarray 6 18, .aload 0, .invokeinterface 6 12, .sipush 2, .aload 0, .invokeinterface 6 17, .imul, .iload 5, .iastore, .aload 0, .invokeinterface 6 12, .sipush 2, .aload 0, .invokeinterface 6 17, .imul, .sipush 1, .iadd, .iload 6, .iastore, .aload 0, .dup, .invokeinterface 6 19, .sipush 1, .iload 5, .ishl, .sipush 1, .iload 6, .ishl, .ior, .ior, .multianewarray 6 19, .aload 0, .dup, .invokeinterface 6 17, .sipush 1, .iadd, .multianewarray 6 17, .sipush 1, .ireturn]
noncomputable abbrev fd_o139 : List (Instr × Nat) := [(.aload_n 0, 1), (.bipush 97, 2), (.bipush 108, 2), (.invokevirtual 145, 3), (.ifCond .eq 18, 3), (.aload_n 0, 1), (.getfield 50, 3), (.aload_n 0, 1), (.getfield 139, 3), (.caload, 1), (.bipush 97, 2), (.isub, 1), (.goto 4, 3), (.iconst (-1), 1), (.istore_n 1, 1), (.iload_n 1, 1), (.ifCond .lt 27, 3), (.aload_n 0, 1), (.iload_n 1, 1), (.invokevirtual 158, 3), (.ifCond .ne 21, 3), (.aload_n 0, 1), (.iload_n 1, 1), (.invokevirtual 161, 3), (.ifCond .ne 13, 3), (.aload_n 0, 1), (.iload_n 1, 1), (.invokevirtual 164, 3), (.ifCond .ne 5, 3), (.iconst 0, 1), (.ireturn, 1), (.aload_n 0, 1), (.dup, 1), (.getfield 139, 3), (.iconst 1, 1), (.iadd, 1), (.putfield 139, 3), (.aload_n 0, 1), (.bipush 124, 2), (.aload_n 0, 1), (.iload_n 1, 1), (.invokevirtual 158, 3), (.invokevirtual 167, 3), (.istore_n 2, 1), (.iload_n 2, 1), (.ifCond .ne 21, 3), (.aload_n 0, 1), (.bipush 94, 2), (.aload_n 0, 1), (.iload_n 1, 1), (.invokevirtual 161, 3), (.invokevirtual 167, 3), (.ifCond .eq 7, 3), (.iconst 1, 1), (.goto 4, 3), (.iconst 0, 1), (.istore_n 3, 1), (.iload_n 2, 1), (.ifCond .ne 25, 3), (.iload_n 3, 1), (.ifCond .ne 21, 3), (.aload_n 0, 1), (.bipush 95, 2), (.aload_n 0, 1), (.iload_n 1, 1), (.invokevirtual 164, 3), (.invokevirtual 167, 3), (.ifCond .eq 7, 3), (.iconst 1, 1), (.goto 4, 3), (.iconst 0, 1), (.istore 4, 2), (.iload_n 2, 1), (.ifCond .ne 14, 3), (.iload_n 3, 1), (.ifCond .ne 10, 3), (.iload 4, 2), (.ifCond .ne 5, 3), (.iconst 0, 1), (.ireturn, 1), (.iload 4, 2), (.ifCond .eq 10, 3), (.bipush 12, 2), (.iload_n 1, 1), (.iadd, 1), (.goto 4, 3), (.iload_n 1, 1), (.istore 5, 2), (.aload_n 0, 1), (.bipush 97, 2), (.bipush 108, 2), (.invokevirtual 145, 3), (.ifCond .eq 29, 3), (.aload_n 0, 1), (.getfield 50, 3), (.aload_n 0, 1), (.getfield 139, 3), (.caload, 1), (.bipush 97, 2), (.isub, 1), (.iload_n 3, 1), (.ifCond .eq 7, 3), (.iconst 0, 1), (.goto 5, 3), (.bipush 12, 2), (.iadd, 1), (.goto 4, 3), (.iconst (-1), 1), (.istore 6, 2), (.iload 6, 2), (.ifCond .lt 23, 3), (.aload_n 0, 1), (.iload 6, 2), (.invokevirtual 152, 3), (.ifCond .eq 14, 3), (.iload_n 2, 1), (.ifCond .ne 12, 3), (.iload 6, 2), (.iload 5, 2), (.if_icmp .gt 5, 3), (.iconst 0, 1), (.ireturn, 1), (.aload_n 0, 1), (.dup, 1), (.getfield 139, 3), (.iconst 1, 1), (.iadd, 1), (.putfield 139, 3), (.aload_n 0, 1), (.getfield 47, 3), (.iconst 2, 1), (.aload_n 0, 1), (.getfield 171, 3), (.imul, 1), (.iload 5, 2), (.iastore, 1), (.aload_n 0, 1), (.getfield 47, 3), (.iconst 2, 1), (.aload_n 0, 1), (.getfield 171, 3), (.imul, 1), (.iconst 1, 1), (.iadd, 1), (.iload 6, 2), (.iastore, 1), (.aload_n 0, 1), (.dup, 1), (.getfield 149, 3), (.iconst 1, 1), (.iload 5, 2), (.ishl, 1), (.iconst 1, 1), (.iload 6, 2), (.ishl, 1), (.ior, 1), (.ior, 1), (.putfield 149, 3), (.aload_n 0, 1), (.dup, 1), (.getfield 171, 3), (.iconst 1, 1), (.iadd, 1), (.putfield 171, 3), (.iconst 1, 1), (.ireturn, 1)]
abbrev fd_p139 : List Nat := [0, 1, 3, 5, 8, 11, 12, 15, 16, 19, 20, 22, 23, 26, 27, 28, 29, 32, 33, 34, 37, 40, 41, 42, 45, 48, 49, 50, 53, 56, 57, 58, 59, 60, 63, 64, 65, 68, 69, 71, 72, 73, 76, 79, 80, 81, 84, 85, 87, 88, 89, 92, 95, 98, 99, 102, 103, 104, 105, 108, 109, 112, 113, 115, 116, 117, 120, 123, 126, 127, 130, 131, 133, 134, 137, 138, 141, 143, 146, 147, 148, 150, 153, 155, 156, 157, 160, 161, 163, 164, 166, 168, 171, 174, 175, 178, 179, 182, 183, 185, 186, 187, 190, 191, 194, 196, 197, 200, 201, 203, 205, 208, 209, 211, 214, 217, 218, 221, 223, 225, 228, 229, 230, 231, 232, 235, 236, 237, 240, 241, 244, 245, 246, 249, 250, 252, 253, 254, 257, 258, 259, 262, 263, 264, 265, 267, 268, 269, 270, 273, 274, 276, 277, 278, 280, 281, 282, 283, 286, 287, 288, 291, 292, 293, 296, 297, 298]
-- 140: FoldedStripsModel.isSign(CC)Z
noncomputable abbrev fd_c140 : List Instr := [.aload 0, .invokeinterface 6 18, .aload 0, .invokeinterface 6 15, .if_icmp .ge 21, .aload 0, .invokeinterface 6 13, .aload 0, .invokeinterface 6 18, .caload, .iload 1, .if_icmp .lt 21, .aload 0, .invokeinterface 6 13, .aload 0, .invokeinterface 6 18, .caload, .iload 2, .if_icmp .gt 21, .sipush 1, .goto 22, .sipush 0, .ireturn]
noncomputable abbrev fd_o140 : List (Instr × Nat) := [(.aload_n 0, 1), (.getfield 139, 3), (.aload_n 0, 1), (.getfield 142, 3), (.if_icmp .ge 33, 3), (.aload_n 0, 1), (.getfield 50, 3), (.aload_n 0, 1), (.getfield 139, 3), (.caload, 1), (.iload_n 1, 1), (.if_icmp .lt 20, 3), (.aload_n 0, 1), (.getfield 50, 3), (.aload_n 0, 1), (.getfield 139, 3), (.caload, 1), (.iload_n 2, 1), (.if_icmp .gt 7, 3), (.iconst 1, 1), (.goto 4, 3), (.iconst 0, 1), (.ireturn, 1)]
abbrev fd_p140 : List Nat := [0, 1, 4, 5, 8, 11, 12, 15, 16, 19, 20, 21, 24, 25, 28, 29, 32, 33, 34, 37, 38, 41, 42, 43]
-- 141: FoldedStripsModel.canDown(I)Z
noncomputable abbrev fd_c141 : List Instr := [.aload 0, .iload 1, .invokevirtual 142, .ifCond .eq 11, .aload 0, .sipush 12, .sipush 23, .invokevirtual 143, .ifCond .eq 11, .sipush 1, .goto 12, .sipush 0, .ireturn]
noncomputable abbrev fd_o141 : List (Instr × Nat) := [(.aload_n 0, 1), (.iload_n 1, 1), (.invokevirtual 152, 3), (.ifCond .eq 18, 3), (.aload_n 0, 1), (.bipush 12, 2), (.bipush 23, 2), (.invokevirtual 155, 3), (.ifCond .eq 7, 3), (.iconst 1, 1), (.goto 4, 3), (.iconst 0, 1), (.ireturn, 1)]
abbrev fd_p141 : List Nat := [0, 1, 2, 5, 8, 9, 11, 13, 16, 19, 20, 23, 24, 25]
-- 142: FoldedStripsModel.isUnused(I)Z
noncomputable abbrev fd_c142 : List Instr := [.aload 0, .invokeinterface 6 19, .iload 1, .ishr, .sipush 1, .iand, .ifCond .ne 9, .sipush 1, .goto 10, .sipush 0, .ireturn]
noncomputable abbrev fd_o142 : List (Instr × Nat) := [(.aload_n 0, 1), (.getfield 149, 3), (.iload_n 1, 1), (.ishr, 1), (.iconst 1, 1), (.iand, 1), (.ifCond .ne 7, 3), (.iconst 1, 1), (.goto 4, 3), (.iconst 0, 1), (.ireturn, 1)]
abbrev fd_p142 : List Nat := [0, 1, 4, 5, 6, 7, 8, 11, 12, 15, 16, 17]
-- 143: FoldedStripsModel.isAnyUnused(II)Z
noncomputable abbrev fd_c143 : List Instr := [.sipush 0, .istore 3, .iload 1, .istore 4, .iload 4, .iload 2, .if_icmp .gt 19, .iload 3, .ifCond .ne 13, .aload 0, .iload 4, .invokevirtual 142, .ifCond .eq 15, .sipush 1, .goto 16, .sipush 0, .istore 3, .iinc 4 1, .goto 4, .iload 3, .ireturn]
noncomputable abbrev fd_o143 : List (Instr × Nat) := [(.iconst 0, 1), (.istore_n 3, 1), (.iload_n 1, 1), (.istore 4, 2), (.iload 4, 2), (.iload_n 2, 1), (.if_icmp .gt 28, 3), (.iload_n 3, 1), (.ifCond .ne 12, 3), (.aload_n 0, 1), (.iload 4, 2), (.invokevirtual 152, 3), (.ifCond .eq 7, 3), (.iconst 1, 1), (.goto 4, 3), (.iconst 0, 1), (.istore_n 3, 1), (.iinc 4 1, 3), (.goto (-28), 3), (.iload_n 3, 1), (.ireturn, 1)]
abbrev fd_p143 : List Nat := [0, 1, 2, 3, 5, 7, 8, 11, 12, 15, 16, 18, 21, 24, 25, 28, 29, 30, 33, 36, 37, 38]
-- 144: FoldedStripsModel.canAbove(I)Z
noncomputable abbrev fd_c144 : List Instr := [.aload 0, .iload 1, .invokevirtual 142, .ifCond .eq 13, .aload 0, .iload 1, .sipush 1, .iadd, .sipush 11, .invokevirtual 143, .ifCond .eq 13, .sipush 1, .goto 14, .sipush 0, .ireturn]
noncomputable abbrev fd_o144 : List (Instr × Nat) := [(.aload_n 0, 1), (.iload_n 1, 1), (.invokevirtual 152, 3), (.ifCond .eq 19, 3), (.aload_n 0, 1), (.iload_n 1, 1), (.iconst 1, 1), (.iadd, 1), (.bipush 11, 2), (.invokevirtual 155, 3), (.ifCond .eq 7, 3), (.iconst 1, 1), (.goto 4, 3), (.iconst 0, 1), (.ireturn, 1)]
abbrev fd_p144 : List Nat := [0, 1, 2, 5, 8, 9, 10, 11, 12, 14, 17, 20, 21, 24, 25, 26]
-- 145: FoldedStripsModel.canBelow(I)Z
noncomputable abbrev fd_c145 : List Instr := [.aload 0, .sipush 12, .iload 1, .iadd, .invokevirtual 142, .ifCond .eq 17, .aload 0, .sipush 12, .iload 1, .iadd, .sipush 1, .iadd, .sipush 23, .invokevirtual 143, .ifCond .eq 17, .sipush 1, .goto 18, .sipush 0, .ireturn]
noncomputable abbrev fd_o145 : List (Instr × Nat) := [(.aload_n 0, 1), (.bipush 12, 2), (.iload_n 1, 1), (.iadd, 1), (.invokevirtual 152, 3), (.ifCond .eq 22, 3), (.aload_n 0, 1), (.bipush 12, 2), (.iload_n 1, 1), (.iadd, 1), (.iconst 1, 1), (.iadd, 1), (.bipush 23, 2), (.invokevirtual 155, 3), (.ifCond .eq 7, 3), (.iconst 1, 1), (.goto 4, 3), (.iconst 0, 1), (.ireturn, 1)]
abbrev fd_p145 : List Nat := [0, 1, 3, 4, 5, 8, 11, 12, 14, 15, 16, 17, 18, 20, 23, 26, 27, 30, 31, 32]
-- 146: FoldedStripsModel.accepts(CZ)Z
noncomputable abbrev fd_c146 : List Instr := [.iload 2, .ifCond .eq 9, .aload 0, .iload 1, .iload 1, .invokevirtual 140, .ifCond .eq 9, .sipush 1, .goto 10, .sipush 0, .istore 3, .aload 0, .dup, .invokeinterface 6 18, .iload 3, .ifCond .eq 18, .sipush 1, .goto 19, .sipush 0, .iadd, .multianewarray 6 18, .iload 3, .ireturn]
noncomputable abbrev fd_o146 : List (Instr × Nat) := [(.iload_n 2, 1), (.ifCond .eq 16, 3), (.aload_n 0, 1), (.iload_n 1, 1), (.iload_n 1, 1), (.invokevirtual 145, 3), (.ifCond .eq 7, 3), (.iconst 1, 1), (.goto 4, 3), (.iconst 0, 1), (.istore_n 3, 1), (.aload_n 0, 1), (.dup, 1), (.getfield 139, 3), (.iload_n 3, 1), (.ifCond .eq 7, 3), (.iconst 1, 1), (.goto 4, 3), (.iconst 0, 1), (.iadd, 1), (.putfield 139, 3), (.iload_n 3, 1), (.ireturn, 1)]
abbrev fd_p146 : List Nat := [0, 1, 4, 5, 6, 7, 10, 13, 14, 17, 18, 19, 20, 21, 24, 25, 28, 29, 32, 33, 34, 37, 38, 39]
-- 147: FoldedStripsModel.isMore()Z
noncomputable abbrev fd_c147 : List Instr := [.sipush 0, .istore 1, .sipush 0, .istore 2, .iload 2, .sipush 24, .if_icmp .ge 19, .iload 1, .aload 0, .iload 2, .invokevirtual 142, .ifCond .eq 14, .sipush 1, .goto 15, .sipush 0, .iadd, .istore 1, .iinc 2 1, .goto 4, .iload 1, .sipush 2, .if_icmp .lt 24, .sipush 1, .goto 25, .sipush 0, .ireturn]
noncomputable abbrev fd_o147 : List (Instr × Nat) := [(.iconst 0, 1), (.istore_n 1, 1), (.iconst 0, 1), (.istore_n 2, 1), (.iload_n 2, 1), (.bipush 24, 2), (.if_icmp .ge 25, 3), (.iload_n 1, 1), (.aload_n 0, 1), (.iload_n 2, 1), (.invokevirtual 152, 3), (.ifCond .eq 7, 3), (.iconst 1, 1), (.goto 4, 3), (.iconst 0, 1), (.iadd, 1), (.istore_n 1, 1), (.iinc 2 1, 3), (.goto (-25), 3), (.iload_n 1, 1), (.iconst 2, 1), (.if_icmp .lt 7, 3), (.iconst 1, 1), (.goto 4, 3), (.iconst 0, 1), (.ireturn, 1)]
abbrev fd_p147 : List Nat := [0, 1, 2, 3, 4, 5, 7, 10, 11, 12, 13, 16, 19, 20, 23, 24, 25, 26, 29, 32, 33, 34, 37, 38, 41, 42, 43]
-- 148: FoldedStripsModel.end(III)I
noncomputable abbrev fd_c148 : List Instr := [.iload 1, .iload 2, .invokestatic 115, .ifCond .ne 6, .sipush (-1), .ireturn, .sipush 24, .iload 1, .imul, .iload 2, .iadd, .istore 4, .aload 0, .invokevirtual 149, .iload 3, .tableswitch 56 0 3 #[16, 29, 33, 46], .aload 0, .iload 4, .invokevirtual 118, .ifCond .eq 27, .aload 0, .invokeinterface 6 0, .iload 4, .iaload, .sipush 1, .isub, .goto 28, .sipush (-6), .ireturn, .aload 0, .iload 4, .invokevirtual 131, .ireturn, .aload 0, .iload 4, .invokevirtual 118, .ifCond .eq 44, .aload 0, .invokeinterface 6 6, .iload 4, .iaload, .sipush 1, .isub, .goto 45, .sipush (-6), .ireturn, .aload 0, .iload 4, .invokevirtual 118, .ifCond .eq 54, .aload 0, .iload 4, .invokevirtual 153, .goto 55, .sipush (-6), .ireturn, .sipush (-2), .ireturn]
noncomputable abbrev fd_o148 : List (Instr × Nat) := [(.iload_n 1, 1), (.iload_n 2, 1), (.invokestatic 103, 3), (.ifCond .ne 5, 3), (.iconst (-1), 1), (.ireturn, 1), (.bipush 24, 2), (.iload_n 1, 1), (.imul, 1), (.iload_n 2, 1), (.iadd, 1), (.istore 4, 2), (.aload_n 0, 1), (.invokevirtual 184, 3), (.iload_n 3, 1), (.tableswitch 105 0 3 #[29, 53, 60, 84], 29), (.aload_n 0, 1), (.iload 4, 2), (.invokevirtual 70, 3), (.ifCond .eq 15, 3), (.aload_n 0, 1), (.getfield 7, 3), (.iload 4, 2), (.iaload, 1), (.iconst 1, 1), (.isub, 1), (.goto 5, 3), (.bipush (-6), 2), (.ireturn, 1), (.aload_n 0, 1), (.iload 4, 2), (.invokevirtual 73, 3), (.ireturn, 1), (.aload_n 0, 1), (.iload 4, 2), (.invokevirtual 70, 3), (.ifCond .eq 15, 3), (.aload_n 0, 1), (.getfield 29, 3), (.iload 4, 2), (.iaload, 1), (.iconst 1, 1), (.isub, 1), (.goto 5, 3), (.bipush (-6), 2), (.ireturn, 1), (.aload_n 0, 1), (.iload 4, 2), (.invokevirtual 70, 3), (.ifCond .eq 12, 3), (.aload_n 0, 1), (.iload 4, 2), (.invokevirtual 86, 3), (.goto 5, 3), (.bipush (-6), 2), (.ireturn, 1), (.bipush (-2), 2), (.ireturn, 1)]
abbrev fd_p148 : List Nat := [0, 1, 2, 5, 8, 9, 10, 12, 13, 14, 15, 16, 18, 19, 22, 23, 52, 53, 55, 58, 61, 62, 65, 67, 68, 69, 70, 73, 75, 76, 77, 79, 82, 83, 84, 86, 89, 92, 93, 96, 98, 99, 100, 101, 104, 106, 107, 108, 110, 113, 116, 117, 119, 122, 125, 127, 128, 130, 131]
-- 149: FoldedStripsModel.lay()V
noncomputable abbrev fd_c149 : List Instr := [.aload 0, .sipush 0, .multianewarray 6 14, .sipush 0, .istore 1, .iload 1, .sipush 144, .if_icmp .ge 15, .aload 0, .invokeinterface 6 6, .iload 1, .sipush 0, .iastore, .iinc 1 1, .goto 5, .sipush 0, .istore 1, .iload 1, .sipush 144, .if_icmp .ge 114, .aload 0, .iload 1, .invokevirtual 118, .ifCond .eq 112, .aload 0, .invokeinterface 6 6, .iload 1, .iaload, .ifCond .ne 112, .aload 0, .dup, .invokeinterface 6 14, .sipush 1, .iadd, .multianewarray 6 14, .aload 0, .invokeinterface 6 7, .aload 0, .invokeinterface 6 14, .sipush 1, .isub, .sipush 0, .iastore, .aload 0, .invokeinterface 6 9, .aload 0, .invokeinterface 6 14, .sipush 1, .isub, .sipush 0, .iastore, .aload 0, .iload 1, .invokevirtual 150, .aload 0, .iload 1, .aload 0, .iload 1, .invokevirtual 151, .invokevirtual 152, .istore 2, .iload 2, .sipush (-6), .if_icmp .ne 66, .sipush (-6), .goto 72, .aload 0, .aload 0, .iload 1, .invokevirtual 151, .iload 1, .invokevirtual 152, .istore 3, .aload 0, .invokeinterface 6 8, .aload 0, .invokeinterface 6 14, .sipush 1, .isub, .iload 2, .sipush (-6), .if_icmp .ne 84, .sipush 1, .goto 85, .sipush 0, .iastore, .aload 0, .invokeinterface 6 10, .aload 0, .invokeinterface 6 14, .sipush 1, .isub, .iload 2, .iload 3, .if_icmp .ge 97, .iload 2, .goto 98, .iload 3, .iastore, .aload 0, .invokeinterface 6 11, .aload 0, .invokeinterface 6 14, .sipush 1, .isub, .iload 2, .iload 3, .if_icmp .ge 110, .iload 3, .goto 111, .iload 2, .iastore, .iinc 1 1, .goto 17, .return_]
noncomputable abbrev fd_o149 : List (Instr × Nat) := [(.aload_n 0, 1), (.iconst 0, 1), (.putfield 96, 3), (.iconst 0, 1), (.istore_n 1, 1), (.iload_n 1, 1), (.sipush 144, 3), (.if_icmp .ge 16, 3), (.aload_n 0, 1), (.getfield 29, 3), (.iload_n 1, 1), (.iconst 0, 1), (.iastore, 1), (.iinc 1 1, 3), (.goto (-17), 3), (.iconst 0, 1), (.istore_n 1, 1), (.iload_n 1, 1), (.sipush 144, 3), (.if_icmp .ge 162, 3), (.aload_n 0, 1), (.iload_n 1, 1), (.invokevirtual 70, 3), (.ifCond .eq 148, 3), (.aload_n 0, 1), (.getfield 29, 3), (.iload_n 1, 1), (.iaload, 1), (.ifCond .ne 139, 3), (.aload_n 0, 1), (.dup, 1), (.getfield 96, 3), (.iconst 1, 1), (.iadd, 1), (.putfield 96, 3), (.aload_n 0, 1), (.getfield 32, 3), (.aload_n 0, 1), (.getfield 96, 3), (.iconst 1, 1), (.isub, 1), (.iconst 0, 1), (.iastore, 1), (.aload_n 0, 1), (.getfield 38, 3), (.aload_n 0, 1), (.getfield 96, 3), (.iconst 1, 1), (.isub, 1), (.iconst 0, 1), (.iastore, 1), (.aload_n 0, 1), (.iload_n 1, 1), (.invokevirtual 89, 3), (.aload_n 0, 1), (.iload_n 1, 1), (.aload_n 0, 1), (.iload_n 1, 1), (.invokevirtual 93, 3), (.invokevirtual 99, 3), (.istore_n 2, 1), (.iload_n 2, 1), (.bipush (-6), 2), (.if_icmp .ne 8, 3), (.bipush (-6), 2), (.goto 13, 3), (.aload_n 0, 1), (.aload_n 0, 1), (.iload_n 1, 1), (.invokevirtual 93, 3), (.iload_n 1, 1), (.invokevirtual 99, 3), (.istore_n 3, 1), (.aload_n 0, 1), (.getfield 35, 3), (.aload_n 0, 1), (.getfield 96, 3), (.iconst 1, 1), (.isub, 1), (.iload_n 2, 1), (.bipush (-6), 2), (.if_icmp .ne 7, 3), (.iconst 1, 1), (.goto 4, 3), (.iconst 0, 1), (.iastore, 1), (.aload_n 0, 1), (.getfield 41, 3), (.aload_n 0, 1), (.getfield 96, 3), (.iconst 1, 1), (.isub, 1), (.iload_n 2, 1), (.iload_n 3, 1), (.if_icmp .ge 7, 3), (.iload_n 2, 1), (.goto 4, 3), (.iload_n 3, 1), (.iastore, 1), (.aload_n 0, 1), (.getfield 44, 3), (.aload_n 0, 1), (.getfield 96, 3), (.iconst 1, 1), (.isub, 1), (.iload_n 2, 1), (.iload_n 3, 1), (.if_icmp .ge 7, 3), (.iload_n 3, 1), (.goto 4, 3), (.iload_n 2, 1), (.iastore, 1), (.iinc 1 1, 3), (.goto (-163), 3), (.return_, 1)]
abbrev fd_p149 : List Nat := [0, 1, 2, 5, 6, 7, 8, 11, 14, 15, 18, 19, 20, 21, 24, 27, 28, 29, 30, 33, 36, 37, 38, 41, 44, 45, 48, 49, 50, 53, 54, 55, 58, 59, 60, 63, 64, 67, 68, 71, 72, 73, 74, 75, 76, 79, 80, 83, 84, 85, 86, 87, 88, 89, 92, 93, 94, 95, 96, 99, 102, 103, 104, 106, 109, 111, 114, 115, 116, 117, 120, 121, 124, 125, 126, 129, 130, 133, 134, 135, 136, 138, 141, 142, 145, 146, 147, 148, 151, 152, 155, 156, 157, 158, 159, 162, 163, 166, 167, 168, 169, 172, 173, 176, 177, 178, 179, 180, 183, 184, 187, 188, 189, 192, 195, 196]
-- 150: FoldedStripsModel.marks(I)V
noncomputable abbrev fd_c150 : List Instr := [.aload 0, .invokeinterface 6 6, .iload 1, .aload 0, .invokeinterface 6 14, .iastore, .aload 0, .invokeinterface 6 6, .aload 0, .iload 1, .invokevirtual 151, .aload 0, .invokeinterface 6 14, .iastore, .aload 0, .invokeinterface 6 7, .aload 0, .invokeinterface 6 14, .sipush 1, .isub, .dup2, .iaload, .sipush 1, .iadd, .iastore, .aload 0, .invokeinterface 6 9, .aload 0, .invokeinterface 6 14, .sipush 1, .isub, .dup2, .iaload, .sipush 1, .iload 1, .sipush 24, .idiv, .ishl, .ior, .iastore, .return_]
noncomputable abbrev fd_o150 : List (Instr × Nat) := [(.aload_n 0, 1), (.getfield 29, 3), (.iload_n 1, 1), (.aload_n 0, 1), (.getfield 96, 3), (.iastore, 1), (.aload_n 0, 1), (.getfield 29, 3), (.aload_n 0, 1), (.iload_n 1, 1), (.invokevirtual 93, 3), (.aload_n 0, 1), (.getfield 96, 3), (.iastore, 1), (.aload_n 0, 1), (.getfield 32, 3), (.aload_n 0, 1), (.getfield 96, 3), (.iconst 1, 1), (.isub, 1), (.dup2, 1), (.iaload, 1), (.iconst 1, 1), (.iadd, 1), (.iastore, 1), (.aload_n 0, 1), (.getfield 38, 3), (.aload_n 0, 1), (.getfield 96, 3), (.iconst 1, 1), (.isub, 1), (.dup2, 1), (.iaload, 1), (.iconst 1, 1), (.iload_n 1, 1), (.bipush 24, 2), (.idiv, 1), (.ishl, 1), (.ior, 1), (.iastore, 1), (.return_, 1)]
abbrev fd_p150 : List Nat := [0, 1, 4, 5, 6, 9, 10, 11, 14, 15, 16, 19, 20, 23, 24, 25, 28, 29, 32, 33, 34, 35, 36, 37, 38, 39, 40, 43, 44, 47, 48, 49, 50, 51, 52, 53, 55, 56, 57, 58, 59, 60]
-- 151: FoldedStripsModel.other(I)I
noncomputable abbrev fd_c151 : List Instr := [.iload 1, .sipush 24, .idiv, .sipush 24, .imul, .aload 0, .invokeinterface 6 0, .iload 1, .iaload, .iadd, .sipush 1, .isub, .ireturn]
noncomputable abbrev fd_o151 : List (Instr × Nat) := [(.iload_n 1, 1), (.bipush 24, 2), (.idiv, 1), (.bipush 24, 2), (.imul, 1), (.aload_n 0, 1), (.getfield 7, 3), (.iload_n 1, 1), (.iaload, 1), (.iadd, 1), (.iconst 1, 1), (.isub, 1), (.ireturn, 1)]
abbrev fd_p151 : List Nat := [0, 1, 3, 4, 6, 7, 8, 11, 12, 13, 14, 15, 16, 17]
-- 152: FoldedStripsModel.follows(II)I
noncomputable abbrev fd_c152 : List Instr := [.iload 1, .istore 3, .iload 3, .invokestatic 132, .istore 4, .iload 4, .sipush (-6), .if_icmp .eq 12, .aload 0, .iload 4, .invokevirtual 118, .ifCond .ne 14, .iload 3, .ireturn, .iload 4, .iload 2, .if_icmp .ne 19, .sipush (-6), .ireturn, .aload 0, .iload 4, .invokevirtual 150, .aload 0, .iload 4, .invokevirtual 151, .istore 3, .goto 2]
noncomputable abbrev fd_o152 : List (Instr × Nat) := [(.iload_n 1, 1), (.istore_n 3, 1), (.iload_n 3, 1), (.invokestatic 66, 3), (.istore 4, 2), (.iload 4, 2), (.bipush (-6), 2), (.if_icmp .eq 12, 3), (.aload_n 0, 1), (.iload 4, 2), (.invokevirtual 70, 3), (.ifCond .ne 5, 3), (.iload_n 3, 1), (.ireturn, 1), (.iload 4, 2), (.iload_n 2, 1), (.if_icmp .ne 6, 3), (.bipush (-6), 2), (.ireturn, 1), (.aload_n 0, 1), (.iload 4, 2), (.invokevirtual 89, 3), (.aload_n 0, 1), (.iload 4, 2), (.invokevirtual 93, 3), (.istore_n 3, 1), (.goto (-46), 3)]
abbrev fd_p152 : List Nat := [0, 1, 2, 3, 6, 8, 10, 12, 15, 16, 18, 21, 24, 25, 26, 28, 29, 32, 34, 35, 36, 38, 41, 42, 44, 47, 48, 51]
-- 153: FoldedStripsModel.crossing(I)I
noncomputable abbrev fd_c153 : List Instr := [.iload 1, .sipush 24, .idiv, .istore 2, .iload 1, .sipush 24, .irem, .istore 3, .aload 0, .invokeinterface 6 0, .iload 1, .iaload, .sipush 1, .isub, .istore 4, .sipush 0, .istore 5, .sipush 0, .istore 6, .iload 6, .sipush 24, .if_icmp .ge 65, .aload 0, .invokeinterface 6 0, .sipush 24, .iload 2, .imul, .iload 6, .iadd, .iaload, .sipush 1, .isub, .istore 7, .iload 7, .iload 6, .if_icmp .le 44, .iload 6, .iload 3, .if_icmp .eq 44, .iload 6, .iload 4, .if_icmp .eq 44, .sipush 1, .goto 45, .sipush 0, .istore 8, .iload 5, .iload 8, .ifCond .eq 60, .iload 6, .iload 3, .iload 4, .invokestatic 154, .iload 7, .iload 3, .iload 4, .invokestatic 154, .if_icmp .eq 60, .sipush 1, .goto 61, .sipush 0, .iadd, .istore 5, .iinc 6 1, .goto 19, .iload 5, .ireturn]
noncomputable abbrev fd_o153 : List (Instr × Nat) := [(.iload_n 1, 1), (.bipush 24, 2), (.idiv, 1), (.istore_n 2, 1), (.iload_n 1, 1), (.bipush 24, 2), (.irem, 1), (.istore_n 3, 1), (.aload_n 0, 1), (.getfield 7, 3), (.iload_n 1, 1), (.iaload, 1), (.iconst 1, 1), (.isub, 1), (.istore 4, 2), (.iconst 0, 1), (.istore 5, 2), (.iconst 0, 1), (.istore 6, 2), (.iload 6, 2), (.bipush 24, 2), (.if_icmp .ge 86, 3), (.aload_n 0, 1), (.getfield 7, 3), (.bipush 24, 2), (.iload_n 2, 1), (.imul, 1), (.iload 6, 2), (.iadd, 1), (.iaload, 1), (.iconst 1, 1), (.isub, 1), (.istore 7, 2), (.iload 7, 2), (.iload 6, 2), (.if_icmp .le 20, 3), (.iload 6, 2), (.iload_n 3, 1), (.if_icmp .eq 14, 3), (.iload 6, 2), (.iload 4, 2), (.if_icmp .eq 7, 3), (.iconst 1, 1), (.goto 4, 3), (.iconst 0, 1), (.istore 8, 2), (.iload 5, 2), (.iload 8, 2), (.ifCond .eq 26, 3), (.iload 6, 2), (.iload_n 3, 1), (.iload 4, 2), (.invokestatic 83, 3), (.iload 7, 2), (.iload_n 3, 1), (.iload 4, 2), (.invokestatic 83, 3), (.if_icmp .eq 7, 3), (.iconst 1, 1), (.goto 4, 3), (.iconst 0, 1), (.iadd, 1), (.istore 5, 2), (.iinc 6 1, 3), (.goto (-87), 3), (.iload 5, 2), (.ireturn, 1)]
abbrev fd_p153 : List Nat := [0, 1, 3, 4, 5, 6, 8, 9, 10, 11, 14, 15, 16, 17, 18, 20, 21, 23, 24, 26, 28, 30, 33, 34, 37, 39, 40, 41, 43, 44, 45, 46, 47, 49, 51, 53, 56, 58, 59, 62, 64, 66, 69, 70, 73, 74, 76, 78, 80, 83, 85, 86, 88, 91, 93, 94, 96, 99, 102, 103, 106, 107, 108, 110, 113, 116, 118, 119]
-- 154: FoldedStripsModel.isBetween(III)Z
noncomputable abbrev fd_c154 : List Instr := [.iload 1, .invokestatic 155, .istore 3, .iload 2, .invokestatic 155, .istore 4, .iload 3, .iload 4, .if_icmp .ge 11, .iload 3, .goto 12, .iload 4, .istore 5, .iload 3, .iload 4, .if_icmp .ge 18, .iload 4, .goto 19, .iload 3, .istore 6, .iload 0, .invokestatic 155, .iload 5, .if_icmp .le 30, .iload 0, .invokestatic 155, .iload 6, .if_icmp .ge 30, .sipush 1, .goto 31, .sipush 0, .ireturn]
noncomputable abbrev fd_o154 : List (Instr × Nat) := [(.iload_n 1, 1), (.invokestatic 80, 3), (.istore_n 3, 1), (.iload_n 2, 1), (.invokestatic 80, 3), (.istore 4, 2), (.iload_n 3, 1), (.iload 4, 2), (.if_icmp .ge 7, 3), (.iload_n 3, 1), (.goto 5, 3), (.iload 4, 2), (.istore 5, 2), (.iload_n 3, 1), (.iload 4, 2), (.if_icmp .ge 8, 3), (.iload 4, 2), (.goto 4, 3), (.iload_n 3, 1), (.istore 6, 2), (.iload_n 0, 1), (.invokestatic 80, 3), (.iload 5, 2), (.if_icmp .le 16, 3), (.iload_n 0, 1), (.invokestatic 80, 3), (.iload 6, 2), (.if_icmp .ge 7, 3), (.iconst 1, 1), (.goto 4, 3), (.iconst 0, 1), (.ireturn, 1)]
abbrev fd_p154 : List Nat := [0, 1, 4, 5, 6, 9, 11, 12, 14, 17, 18, 21, 23, 25, 26, 28, 31, 33, 36, 37, 39, 40, 43, 45, 48, 49, 52, 54, 57, 58, 61, 62, 63]
-- 155: FoldedStripsModel.around(I)I
noncomputable abbrev fd_c155 : List Instr := [.iload 0, .sipush 12, .if_icmp .ge 5, .iload 0, .goto 8, .sipush 35, .iload 0, .isub, .ireturn]
noncomputable abbrev fd_o155 : List (Instr × Nat) := [(.iload_n 0, 1), (.bipush 12, 2), (.if_icmp .ge 7, 3), (.iload_n 0, 1), (.goto 7, 3), (.bipush 35, 2), (.iload_n 0, 1), (.isub, 1), (.ireturn, 1)]
abbrev fd_p155 : List Nat := [0, 1, 3, 6, 7, 10, 12, 13, 14, 15]
-- 156: FoldedStripsModel.panel(II)I
noncomputable abbrev fd_c156 : List Instr := [.iload 1, .invokestatic 116, .ifCond .ne 5, .sipush (-1), .ireturn, .aload 0, .invokevirtual 149, .iload 2, .tableswitch 52 0 7 #[9, 13, 20, 26, 34, 38, 44, 48], .aload 0, .iload 1, .invokevirtual 121, .ireturn, .aload 0, .invokeinterface 6 0, .sipush 144, .iload 1, .iadd, .iaload, .ireturn, .aload 0, .sipush 24, .iload 1, .imul, .invokevirtual 157, .ireturn, .aload 0, .sipush 24, .iload 1, .imul, .sipush 12, .iadd, .invokevirtual 157, .ireturn, .aload 0, .iload 1, .invokevirtual 158, .ireturn, .aload 0, .iload 1, .iload 1, .sipush 2, .invokevirtual 130, .ireturn, .aload 0, .iload 1, .invokevirtual 159, .ireturn, .aload 0, .iload 1, .invokevirtual 160, .ireturn, .sipush (-2), .ireturn]
noncomputable abbrev fd_o156 : List (Instr × Nat) := [(.iload_n 1, 1), (.invokestatic 58, 3), (.ifCond .ne 5, 3), (.iconst (-1), 1), (.ireturn, 1), (.aload_n 0, 1), (.invokevirtual 184, 3), (.iload_n 2, 1), (.tableswitch 110 0 7 #[46, 52, 63, 72, 84, 90, 98, 104], 46), (.aload_n 0, 1), (.iload_n 1, 1), (.invokevirtual 114, 3), (.ireturn, 1), (.aload_n 0, 1), (.getfield 7, 3), (.sipush 144, 3), (.iload_n 1, 1), (.iadd, 1), (.iaload, 1), (.ireturn, 1), (.aload_n 0, 1), (.bipush 24, 2), (.iload_n 1, 1), (.imul, 1), (.invokevirtual 187, 3), (.ireturn, 1), (.aload_n 0, 1), (.bipush 24, 2), (.iload_n 1, 1), (.imul, 1), (.bipush 12, 2), (.iadd, 1), (.invokevirtual 187, 3), (.ireturn, 1), (.aload_n 0, 1), (.iload_n 1, 1), (.invokevirtual 190, 3), (.ireturn, 1), (.aload_n 0, 1), (.iload_n 1, 1), (.iload_n 1, 1), (.iconst 2, 1), (.invokevirtual 76, 3), (.ireturn, 1), (.aload_n 0, 1), (.iload_n 1, 1), (.invokevirtual 193, 3), (.ireturn, 1), (.aload_n 0, 1), (.iload_n 1, 1), (.invokevirtual 196, 3), (.ireturn, 1), (.bipush (-2), 2), (.ireturn, 1)]
abbrev fd_p156 : List Nat := [0, 1, 4, 7, 8, 9, 10, 13, 14, 60, 61, 62, 65, 66, 67, 70, 73, 74, 75, 76, 77, 78, 80, 81, 82, 85, 86, 87, 89, 90, 91, 93, 94, 97, 98, 99, 100, 103, 104, 105, 106, 107, 108, 111, 112, 113, 114, 117, 118, 119, 120, 123, 124, 126, 127]
-- 157: FoldedStripsModel.columns(I)I
noncomputable abbrev fd_c157 : List Instr := [.sipush 0, .istore 2, .sipush 0, .istore 3, .iload 3, .sipush 12, .if_icmp .ge 23, .iload 2, .aload 0, .iload 1, .iload 3, .iadd, .invokevirtual 118, .ifCond .eq 18, .sipush 1, .iload 3, .ishl, .goto 19, .sipush 0, .ior, .istore 2, .iinc 3 1, .goto 4, .iload 2, .ireturn]
noncomputable abbrev fd_o157 : List (Instr × Nat) := [(.iconst 0, 1), (.istore_n 2, 1), (.iconst 0, 1), (.istore_n 3, 1), (.iload_n 3, 1), (.bipush 12, 2), (.if_icmp .ge 29, 3), (.iload_n 2, 1), (.aload_n 0, 1), (.iload_n 1, 1), (.iload_n 3, 1), (.iadd, 1), (.invokevirtual 70, 3), (.ifCond .eq 9, 3), (.iconst 1, 1), (.iload_n 3, 1), (.ishl, 1), (.goto 4, 3), (.iconst 0, 1), (.ior, 1), (.istore_n 2, 1), (.iinc 3 1, 3), (.goto (-29), 3), (.iload_n 2, 1), (.ireturn, 1)]
abbrev fd_p157 : List Nat := [0, 1, 2, 3, 4, 5, 7, 10, 11, 12, 13, 14, 15, 18, 21, 22, 23, 24, 27, 28, 29, 30, 33, 36, 37, 38]
-- 158: FoldedStripsModel.pairs(I)I
noncomputable abbrev fd_c158 : List Instr := [.sipush 0, .istore 2, .sipush 0, .istore 3, .iload 3, .sipush 24, .if_icmp .ge 31, .sipush 24, .iload 1, .imul, .iload 3, .iadd, .istore 4, .iload 2, .aload 0, .invokeinterface 6 0, .iload 4, .iaload, .sipush 1, .isub, .iload 3, .if_icmp .le 26, .aload 0, .iload 4, .invokevirtual 153, .goto 27, .sipush 0, .iadd, .istore 2, .iinc 3 1, .goto 4, .iload 2, .sipush 2, .idiv, .ireturn]
noncomputable abbrev fd_o158 : List (Instr × Nat) := [(.iconst 0, 1), (.istore_n 2, 1), (.iconst 0, 1), (.istore_n 3, 1), (.iload_n 3, 1), (.bipush 24, 2), (.if_icmp .ge 43, 3), (.bipush 24, 2), (.iload_n 1, 1), (.imul, 1), (.iload_n 3, 1), (.iadd, 1), (.istore 4, 2), (.iload_n 2, 1), (.aload_n 0, 1), (.getfield 7, 3), (.iload 4, 2), (.iaload, 1), (.iconst 1, 1), (.isub, 1), (.iload_n 3, 1), (.if_icmp .le 12, 3), (.aload_n 0, 1), (.iload 4, 2), (.invokevirtual 86, 3), (.goto 4, 3), (.iconst 0, 1), (.iadd, 1), (.istore_n 2, 1), (.iinc 3 1, 3), (.goto (-43), 3), (.iload_n 2, 1), (.iconst 2, 1), (.idiv, 1), (.ireturn, 1)]
abbrev fd_p158 : List Nat := [0, 1, 2, 3, 4, 5, 7, 10, 12, 13, 14, 15, 16, 18, 19, 20, 23, 25, 26, 27, 28, 29, 32, 33, 35, 38, 41, 42, 43, 44, 47, 50, 51, 52, 53, 54]
-- 159: FoldedStripsModel.linesIn(I)I
noncomputable abbrev fd_c159 : List Instr := [.sipush 0, .istore 2, .sipush 0, .istore 3, .iload 3, .aload 0, .invokeinterface 6 14, .if_icmp .ge 21, .iload 2, .aload 0, .invokeinterface 6 9, .iload 3, .iaload, .iload 1, .ishr, .sipush 1, .iand, .iadd, .istore 2, .iinc 3 1, .goto 4, .iload 2, .ireturn]
noncomputable abbrev fd_o159 : List (Instr × Nat) := [(.iconst 0, 1), (.istore_n 2, 1), (.iconst 0, 1), (.istore_n 3, 1), (.iload_n 3, 1), (.aload_n 0, 1), (.getfield 96, 3), (.if_icmp .ge 22, 3), (.iload_n 2, 1), (.aload_n 0, 1), (.getfield 38, 3), (.iload_n 3, 1), (.iaload, 1), (.iload_n 1, 1), (.ishr, 1), (.iconst 1, 1), (.iand, 1), (.iadd, 1), (.istore_n 2, 1), (.iinc 3 1, 3), (.goto (-24), 3), (.iload_n 2, 1), (.ireturn, 1)]
abbrev fd_p159 : List Nat := [0, 1, 2, 3, 4, 5, 6, 9, 12, 13, 14, 17, 18, 19, 20, 21, 22, 23, 24, 25, 28, 31, 32, 33]
-- 160: FoldedStripsModel.down(I)I
noncomputable abbrev fd_c160 : List Instr := [.sipush 0, .istore 2, .sipush 0, .istore 3, .iload 3, .sipush 12, .if_icmp .ge 25, .iload 2, .aload 0, .invokeinterface 6 0, .sipush 24, .iload 1, .imul, .iload 3, .iadd, .iaload, .sipush 12, .if_icmp .le 20, .sipush 1, .goto 21, .sipush 0, .iadd, .istore 2, .iinc 3 1, .goto 4, .iload 2, .ireturn]
noncomputable abbrev fd_o160 : List (Instr × Nat) := [(.iconst 0, 1), (.istore_n 2, 1), (.iconst 0, 1), (.istore_n 3, 1), (.iload_n 3, 1), (.bipush 12, 2), (.if_icmp .ge 33, 3), (.iload_n 2, 1), (.aload_n 0, 1), (.getfield 7, 3), (.bipush 24, 2), (.iload_n 1, 1), (.imul, 1), (.iload_n 3, 1), (.iadd, 1), (.iaload, 1), (.bipush 12, 2), (.if_icmp .le 7, 3), (.iconst 1, 1), (.goto 4, 3), (.iconst 0, 1), (.iadd, 1), (.istore_n 2, 1), (.iinc 3 1, 3), (.goto (-33), 3), (.iload_n 2, 1), (.ireturn, 1)]
abbrev fd_p160 : List Nat := [0, 1, 2, 3, 4, 5, 7, 10, 11, 12, 15, 17, 18, 19, 20, 21, 22, 24, 27, 28, 31, 32, 33, 34, 37, 40, 41, 42]
-- 161: FoldedStripsModel.fold(II)I
noncomputable abbrev fd_c161 : List Instr := [.iload 1, .sipush 0, .sipush 4, .invokestatic 117, .ifCond .ne 7, .sipush (-1), .ireturn, .aload 0, .sipush 24, .iload 1, .imul, .sipush 12, .iadd, .invokevirtual 157, .istore 3, .iload 2, .tableswitch 36 0 3 #[17, 19, 29, 29], .iload 3, .ireturn, .iload 3, .aload 0, .sipush 24, .iload 1, .imul, .sipush 24, .iadd, .invokevirtual 157, .iand, .ireturn, .aload 0, .iload 1, .iload 2, .sipush 2, .isub, .invokevirtual 162, .ireturn, .sipush (-2), .ireturn]
noncomputable abbrev fd_o161 : List (Instr × Nat) := [(.iload_n 1, 1), (.iconst 0, 1), (.iconst 4, 1), (.invokestatic 54, 3), (.ifCond .ne 5, 3), (.iconst (-1), 1), (.ireturn, 1), (.aload_n 0, 1), (.bipush 24, 2), (.iload_n 1, 1), (.imul, 1), (.bipush 12, 2), (.iadd, 1), (.invokevirtual 187, 3), (.istore_n 3, 1), (.iload_n 2, 1), (.tableswitch 57 0 3 #[32, 34, 48, 48], 32), (.iload_n 3, 1), (.ireturn, 1), (.iload_n 3, 1), (.aload_n 0, 1), (.bipush 24, 2), (.iload_n 1, 1), (.imul, 1), (.bipush 24, 2), (.iadd, 1), (.invokevirtual 187, 3), (.iand, 1), (.ireturn, 1), (.aload_n 0, 1), (.iload_n 1, 1), (.iload_n 2, 1), (.iconst 2, 1), (.isub, 1), (.invokevirtual 199, 3), (.ireturn, 1), (.bipush (-2), 2), (.ireturn, 1)]
abbrev fd_p161 : List Nat := [0, 1, 2, 3, 6, 9, 10, 11, 12, 14, 15, 16, 18, 19, 22, 23, 24, 56, 57, 58, 59, 60, 62, 63, 64, 66, 67, 70, 71, 72, 73, 74, 75, 76, 77, 80, 81, 83, 84]
-- 162: FoldedStripsModel.faults(II)I
noncomputable abbrev fd_c162 : List Instr := [.aload 0, .sipush 24, .iload 1, .imul, .sipush 12, .iadd, .invokevirtual 157, .istore 3, .aload 0, .sipush 24, .iload 1, .imul, .sipush 24, .iadd, .invokevirtual 157, .istore 4, .iload 2, .ifCond .ne 24, .iload 3, .iload 4, .sipush (-1), .ixor, .iand, .goto 29, .iload 4, .iload 3, .sipush (-1), .ixor, .iand, .ireturn]
noncomputable abbrev fd_o162 : List (Instr × Nat) := [(.aload_n 0, 1), (.bipush 24, 2), (.iload_n 1, 1), (.imul, 1), (.bipush 12, 2), (.iadd, 1), (.invokevirtual 187, 3), (.istore_n 3, 1), (.aload_n 0, 1), (.bipush 24, 2), (.iload_n 1, 1), (.imul, 1), (.bipush 24, 2), (.iadd, 1), (.invokevirtual 187, 3), (.istore 4, 2), (.iload_n 2, 1), (.ifCond .ne 12, 3), (.iload_n 3, 1), (.iload 4, 2), (.iconst (-1), 1), (.ixor, 1), (.iand, 1), (.goto 9, 3), (.iload 4, 2), (.iload_n 3, 1), (.iconst (-1), 1), (.ixor, 1), (.iand, 1), (.ireturn, 1)]
abbrev fd_p162 : List Nat := [0, 1, 3, 4, 5, 7, 8, 11, 12, 13, 15, 16, 17, 19, 20, 23, 25, 26, 29, 30, 32, 33, 34, 35, 38, 40, 41, 42, 43, 44, 45]
-- 163: FoldedStripsModel.hand(II)I
noncomputable abbrev fd_c163 : List Instr := [.iload 1, .sipush 0, .sipush 5, .invokestatic 117, .ifCond .ne 7, .sipush (-1), .ireturn, .iload 2, .sipush 0, .sipush 3, .invokestatic 117, .ifCond .eq 17, .aload 0, .iload 1, .iload 2, .invokevirtual 164, .goto 18, .sipush (-2), .ireturn]
noncomputable abbrev fd_o163 : List (Instr × Nat) := [(.iload_n 1, 1), (.iconst 0, 1), (.iconst 5, 1), (.invokestatic 54, 3), (.ifCond .ne 5, 3), (.iconst (-1), 1), (.ireturn, 1), (.iload_n 2, 1), (.iconst 0, 1), (.iconst 3, 1), (.invokestatic 54, 3), (.ifCond .eq 12, 3), (.aload_n 0, 1), (.iload_n 1, 1), (.iload_n 2, 1), (.invokevirtual 205, 3), (.goto 5, 3), (.bipush (-2), 2), (.ireturn, 1)]
abbrev fd_p163 : List Nat := [0, 1, 2, 3, 6, 9, 10, 11, 12, 13, 14, 17, 20, 21, 22, 23, 26, 29, 31, 32]
-- 164: FoldedStripsModel.ofHand(II)I
noncomputable abbrev fd_c164 : List Instr := [.sipush 0, .istore 3, .sipush 0, .istore 4, .iload 4, .sipush 6, .if_icmp .ge 77, .aload 0, .invokeinterface 6 0, .sipush 144, .iload 4, .iadd, .iaload, .iload 1, .if_icmp .ne 17, .sipush 1, .goto 18, .sipush 0, .istore 5, .iload 5, .ifCond .eq 31, .iload 4, .ifCond .le 31, .aload 0, .iload 4, .sipush 1, .isub, .sipush 1, .invokevirtual 162, .invokestatic 165, .goto 32, .sipush 0, .istore 6, .iload 5, .ifCond .eq 45, .iload 4, .ifCond .le 45, .aload 0, .iload 4, .sipush 1, .isub, .sipush 0, .invokevirtual 162, .invokestatic 165, .goto 46, .sipush 0, .istore 7, .iload 3, .iload 5, .ifCond .ne 52, .sipush 0, .goto 73, .iload 2, .ifCond .ne 58, .sipush 1, .iload 4, .ishl, .goto 73, .iload 2, .sipush 1, .if_icmp .ne 65, .aload 0, .iload 4, .invokevirtual 121, .goto 73, .iload 2, .sipush 2, .if_icmp .ne 72, .iload 7, .iload 6, .iadd, .goto 73, .iload 6, .iadd, .istore 3, .iinc 4 1, .goto 4, .iload 3, .ireturn]
noncomputable abbrev fd_o164 : List (Instr × Nat) := [(.iconst 0, 1), (.istore_n 3, 1), (.iconst 0, 1), (.istore 4, 2), (.iload 4, 2), (.bipush 6, 2), (.if_icmp .ge 139, 3), (.aload_n 0, 1), (.getfield 7, 3), (.sipush 144, 3), (.iload 4, 2), (.iadd, 1), (.iaload, 1), (.iload_n 1, 1), (.if_icmp .ne 7, 3), (.iconst 1, 1), (.goto 4, 3), (.iconst 0, 1), (.istore 5, 2), (.iload 5, 2), (.ifCond .eq 23, 3), (.iload 4, 2), (.ifCond .le 18, 3), (.aload_n 0, 1), (.iload 4, 2), (.iconst 1, 1), (.isub, 1), (.iconst 1, 1), (.invokevirtual 199, 3), (.invokestatic 202, 3), (.goto 4, 3), (.iconst 0, 1), (.istore 6, 2), (.iload 5, 2), (.ifCond .eq 23, 3), (.iload 4, 2), (.ifCond .le 18, 3), (.aload_n 0, 1), (.iload 4, 2), (.iconst 1, 1), (.isub, 1), (.iconst 0, 1), (.invokevirtual 199, 3), (.invokestatic 202, 3), (.goto 4, 3), (.iconst 0, 1), (.istore 7, 2), (.iload_n 3, 1), (.iload 5, 2), (.ifCond .ne 7, 3), (.iconst 0, 1), (.goto 43, 3), (.iload_n 2, 1), (.ifCond .ne 10, 3), (.iconst 1, 1), (.iload 4, 2), (.ishl, 1), (.goto 32, 3), (.iload_n 2, 1), (.iconst 1, 1), (.if_icmp .ne 12, 3), (.aload_n 0, 1), (.iload 4, 2), (.invokevirtual 114, 3), (.goto 18, 3), (.iload_n 2, 1), (.iconst 2, 1), (.if_icmp .ne 11, 3), (.iload 7, 2), (.iload 6, 2), (.iadd, 1), (.goto 5, 3), (.iload 6, 2), (.iadd, 1), (.istore_n 3, 1), (.iinc 4 1, 3), (.goto (-140), 3), (.iload_n 3, 1), (.ireturn, 1)]
abbrev fd_p164 : List Nat := [0, 1, 2, 3, 5, 7, 9, 12, 13, 16, 19, 21, 22, 23, 24, 27, 28, 31, 32, 34, 36, 39, 41, 44, 45, 47, 48, 49, 50, 53, 56, 59, 60, 62, 64, 67, 69, 72, 73, 75, 76, 77, 78, 81, 84, 87, 88, 90, 91, 93, 96, 97, 100, 101, 104, 105, 107, 108, 111, 112, 113, 116, 117, 119, 122, 125, 126, 127, 130, 132, 134, 135, 138, 140, 141, 142, 145, 148, 149, 150]
-- 165: FoldedStripsModel.bits(I)I
noncomputable abbrev fd_c165 : List Instr := [.sipush 0, .istore 1, .sipush 0, .istore 2, .iload 2, .sipush 12, .if_icmp .ge 17, .iload 1, .iload 0, .iload 2, .ishr, .sipush 1, .iand, .iadd, .istore 1, .iinc 2 1, .goto 4, .iload 1, .ireturn]
noncomputable abbrev fd_o165 : List (Instr × Nat) := [(.iconst 0, 1), (.istore_n 1, 1), (.iconst 0, 1), (.istore_n 2, 1), (.iload_n 2, 1), (.bipush 12, 2), (.if_icmp .ge 17, 3), (.iload_n 1, 1), (.iload_n 0, 1), (.iload_n 2, 1), (.ishr, 1), (.iconst 1, 1), (.iand, 1), (.iadd, 1), (.istore_n 1, 1), (.iinc 2 1, 3), (.goto (-17), 3), (.iload_n 1, 1), (.ireturn, 1)]
abbrev fd_p165 : List Nat := [0, 1, 2, 3, 4, 5, 7, 10, 11, 12, 13, 14, 15, 16, 17, 18, 21, 24, 25, 26]
-- 166: FoldedStripsModel.line(II)I
noncomputable abbrev fd_c166 : List Instr := [.aload 0, .invokevirtual 149, .iload 1, .sipush 0, .aload 0, .invokeinterface 6 14, .sipush 1, .isub, .invokestatic 117, .ifCond .ne 12, .sipush (-1), .ireturn, .iload 2, .tableswitch 46 0 5 #[14, 19, 24, 29, 36, 41], .aload 0, .invokeinterface 6 7, .iload 1, .iaload, .ireturn, .aload 0, .invokeinterface 6 8, .iload 1, .iaload, .ireturn, .aload 0, .invokeinterface 6 9, .iload 1, .iaload, .ireturn, .aload 0, .aload 0, .invokeinterface 6 9, .iload 1, .iaload, .invokevirtual 167, .ireturn, .aload 0, .invokeinterface 6 10, .iload 1, .iaload, .ireturn, .aload 0, .invokeinterface 6 11, .iload 1, .iaload, .ireturn, .sipush (-2), .ireturn]
noncomputable abbrev fd_o166 : List (Instr × Nat) := [(.aload_n 0, 1), (.invokevirtual 184, 3), (.iload_n 1, 1), (.iconst 0, 1), (.aload_n 0, 1), (.getfield 96, 3), (.iconst 1, 1), (.isub, 1), (.invokestatic 54, 3), (.ifCond .ne 5, 3), (.iconst (-1), 1), (.ireturn, 1), (.iload_n 2, 1), (.tableswitch 85 0 5 #[39, 46, 53, 60, 71, 78], 39), (.aload_n 0, 1), (.getfield 32, 3), (.iload_n 1, 1), (.iaload, 1), (.ireturn, 1), (.aload_n 0, 1), (.getfield 35, 3), (.iload_n 1, 1), (.iaload, 1), (.ireturn, 1), (.aload_n 0, 1), (.getfield 38, 3), (.iload_n 1, 1), (.iaload, 1), (.ireturn, 1), (.aload_n 0, 1), (.aload_n 0, 1), (.getfield 38, 3), (.iload_n 1, 1), (.iaload, 1), (.invokevirtual 208, 3), (.ireturn, 1), (.aload_n 0, 1), (.getfield 41, 3), (.iload_n 1, 1), (.iaload, 1), (.ireturn, 1), (.aload_n 0, 1), (.getfield 44, 3), (.iload_n 1, 1), (.iaload, 1), (.ireturn, 1), (.bipush (-2), 2), (.ireturn, 1)]
abbrev fd_p166 : List Nat := [0, 1, 4, 5, 6, 7, 10, 11, 12, 15, 18, 19, 20, 21, 60, 61, 64, 65, 66, 67, 68, 71, 72, 73, 74, 75, 78, 79, 80, 81, 82, 83, 86, 87, 88, 91, 92, 93, 96, 97, 98, 99, 100, 103, 104, 105, 106, 108, 109]
-- 167: FoldedStripsModel.handsOf(I)I
noncomputable abbrev fd_c167 : List Instr := [.sipush 0, .istore 2, .sipush 0, .istore 3, .iload 3, .sipush 6, .if_icmp .ge 29, .iload 2, .iload 1, .iload 3, .ishr, .sipush 1, .iand, .sipush 1, .if_icmp .ne 24, .sipush 1, .aload 0, .invokeinterface 6 0, .sipush 144, .iload 3, .iadd, .iaload, .ishl, .goto 25, .sipush 0, .ior, .istore 2, .iinc 3 1, .goto 4, .iload 2, .ireturn]
noncomputable abbrev fd_o167 : List (Instr × Nat) := [(.iconst 0, 1), (.istore_n 2, 1), (.iconst 0, 1), (.istore_n 3, 1), (.iload_n 3, 1), (.bipush 6, 2), (.if_icmp .ge 37, 3), (.iload_n 2, 1), (.iload_n 1, 1), (.iload_n 3, 1), (.ishr, 1), (.iconst 1, 1), (.iand, 1), (.iconst 1, 1), (.if_icmp .ne 18, 3), (.iconst 1, 1), (.aload_n 0, 1), (.getfield 7, 3), (.sipush 144, 3), (.iload_n 3, 1), (.iadd, 1), (.iaload, 1), (.ishl, 1), (.goto 4, 3), (.iconst 0, 1), (.ior, 1), (.istore_n 2, 1), (.iinc 3 1, 3), (.goto (-37), 3), (.iload_n 2, 1), (.ireturn, 1)]
abbrev fd_p167 : List Nat := [0, 1, 2, 3, 4, 5, 7, 10, 11, 12, 13, 14, 15, 16, 17, 20, 21, 22, 25, 28, 29, 30, 31, 32, 35, 36, 37, 38, 41, 44, 45, 46]
-- 168: FoldedStripsModel.count(I)I
noncomputable abbrev fd_c168 : List Instr := [.aload 0, .invokevirtual 149, .iload 1, .tableswitch 30 0 10 #[4, 8, 11, 15, 18, 4, 4, 11, 11, 24, 27], .aload 0, .iload 1, .invokevirtual 169, .ireturn, .aload 0, .invokeinterface 6 14, .ireturn, .aload 0, .iload 1, .invokevirtual 170, .ireturn, .aload 0, .invokevirtual 129, .ireturn, .aload 0, .sipush 0, .sipush 5, .sipush 3, .invokevirtual 130, .ireturn, .aload 0, .invokeinterface 6 15, .ireturn, .aload 0, .invokeinterface 6 16, .ireturn, .sipush (-2), .ireturn]
noncomputable abbrev fd_o168 : List (Instr × Nat) := [(.aload_n 0, 1), (.invokevirtual 184, 3), (.iload_n 1, 1), (.tableswitch 99 0 10 #[59, 65, 70, 76, 81, 59, 59, 70, 70, 89, 94], 59), (.aload_n 0, 1), (.iload_n 1, 1), (.invokevirtual 211, 3), (.ireturn, 1), (.aload_n 0, 1), (.getfield 96, 3), (.ireturn, 1), (.aload_n 0, 1), (.iload_n 1, 1), (.invokevirtual 214, 3), (.ireturn, 1), (.aload_n 0, 1), (.invokevirtual 131, 3), (.ireturn, 1), (.aload_n 0, 1), (.iconst 0, 1), (.iconst 5, 1), (.iconst 3, 1), (.invokevirtual 76, 3), (.ireturn, 1), (.aload_n 0, 1), (.getfield 142, 3), (.ireturn, 1), (.aload_n 0, 1), (.getfield 62, 3), (.ireturn, 1), (.bipush (-2), 2), (.ireturn, 1)]
abbrev fd_p168 : List Nat := [0, 1, 4, 5, 64, 65, 66, 69, 70, 71, 74, 75, 76, 77, 80, 81, 82, 85, 86, 87, 88, 89, 90, 93, 94, 95, 98, 99, 100, 103, 104, 106, 107]
-- 169: FoldedStripsModel.ofPanels(I)I
noncomputable abbrev fd_c169 : List Instr := [.sipush 0, .istore 2, .sipush 0, .istore 3, .iload 3, .sipush 6, .if_icmp .ge 46, .iload 3, .ifCond .ne 11, .sipush 0, .goto 26, .aload 0, .iload 3, .sipush 1, .isub, .sipush 0, .invokevirtual 162, .invokestatic 165, .aload 0, .iload 3, .sipush 1, .isub, .sipush 1, .invokevirtual 162, .invokestatic 165, .iadd, .istore 4, .iload 2, .iload 1, .ifCond .ne 34, .aload 0, .iload 3, .invokevirtual 121, .goto 42, .iload 1, .sipush 5, .if_icmp .ne 39, .iload 4, .goto 42, .aload 0, .iload 3, .invokevirtual 158, .iadd, .istore 2, .iinc 3 1, .goto 4, .iload 2, .ireturn]
noncomputable abbrev fd_o169 : List (Instr × Nat) := [(.iconst 0, 1), (.istore_n 2, 1), (.iconst 0, 1), (.istore_n 3, 1), (.iload_n 3, 1), (.bipush 6, 2), (.if_icmp .ge 72, 3), (.iload_n 3, 1), (.ifCond .ne 7, 3), (.iconst 0, 1), (.goto 26, 3), (.aload_n 0, 1), (.iload_n 3, 1), (.iconst 1, 1), (.isub, 1), (.iconst 0, 1), (.invokevirtual 199, 3), (.invokestatic 202, 3), (.aload_n 0, 1), (.iload_n 3, 1), (.iconst 1, 1), (.isub, 1), (.iconst 1, 1), (.invokevirtual 199, 3), (.invokestatic 202, 3), (.iadd, 1), (.istore 4, 2), (.iload_n 2, 1), (.iload_n 1, 1), (.ifCond .ne 11, 3), (.aload_n 0, 1), (.iload_n 3, 1), (.invokevirtual 114, 3), (.goto 18, 3), (.iload_n 1, 1), (.iconst 5, 1), (.if_icmp .ne 8, 3), (.iload 4, 2), (.goto 8, 3), (.aload_n 0, 1), (.iload_n 3, 1), (.invokevirtual 190, 3), (.iadd, 1), (.istore_n 2, 1), (.iinc 3 1, 3), (.goto (-72), 3), (.iload_n 2, 1), (.ireturn, 1)]
abbrev fd_p169 : List Nat := [0, 1, 2, 3, 4, 5, 7, 10, 11, 14, 15, 18, 19, 20, 21, 22, 23, 26, 29, 30, 31, 32, 33, 34, 37, 40, 41, 43, 44, 45, 48, 49, 50, 53, 56, 57, 58, 61, 63, 66, 67, 68, 71, 72, 73, 76, 79, 80, 81]
-- 170: FoldedStripsModel.ofLines(I)I
noncomputable abbrev fd_c170 : List Instr := [.sipush 0, .istore 2, .sipush 0, .istore 3, .sipush 0, .istore 4, .iload 4, .aload 0, .invokeinterface 6 14, .if_icmp .ge 62, .aload 0, .invokeinterface 6 8, .iload 4, .iaload, .ifCond .ne 29, .aload 0, .invokeinterface 6 10, .iload 4, .iaload, .sipush 12, .if_icmp .ge 29, .aload 0, .invokeinterface 6 11, .iload 4, .iaload, .sipush 132, .if_icmp .lt 29, .sipush 1, .goto 30, .sipush 0, .istore 5, .iload 2, .iload 1, .sipush 2, .if_icmp .ne 40, .aload 0, .invokeinterface 6 8, .iload 4, .iaload, .goto 45, .iload 5, .ifCond .eq 44, .sipush 1, .goto 45, .sipush 0, .iadd, .istore 2, .aload 0, .invokeinterface 6 7, .iload 4, .iaload, .iload 3, .if_icmp .le 58, .aload 0, .invokeinterface 6 7, .iload 4, .iaload, .goto 59, .iload 3, .istore 3, .iinc 4 1, .goto 6, .iload 1, .sipush 7, .if_icmp .ne 67, .iload 3, .goto 68, .iload 2, .ireturn]
noncomputable abbrev fd_o170 : List (Instr × Nat) := [(.iconst 0, 1), (.istore_n 2, 1), (.iconst 0, 1), (.istore_n 3, 1), (.iconst 0, 1), (.istore 4, 2), (.iload 4, 2), (.aload_n 0, 1), (.getfield 96, 3), (.if_icmp .ge 102, 3), (.aload_n 0, 1), (.getfield 35, 3), (.iload 4, 2), (.iaload, 1), (.ifCond .ne 32, 3), (.aload_n 0, 1), (.getfield 41, 3), (.iload 4, 2), (.iaload, 1), (.bipush 12, 2), (.if_icmp .ge 20, 3), (.aload_n 0, 1), (.getfield 44, 3), (.iload 4, 2), (.iaload, 1), (.sipush 132, 3), (.if_icmp .lt 7, 3), (.iconst 1, 1), (.goto 4, 3), (.iconst 0, 1), (.istore 5, 2), (.iload_n 2, 1), (.iload_n 1, 1), (.iconst 2, 1), (.if_icmp .ne 13, 3), (.aload_n 0, 1), (.getfield 35, 3), (.iload 4, 2), (.iaload, 1), (.goto 13, 3), (.iload 5, 2), (.ifCond .eq 7, 3), (.iconst 1, 1), (.goto 4, 3), (.iconst 0, 1), (.iadd, 1), (.istore_n 2, 1), (.aload_n 0, 1), (.getfield 32, 3), (.iload 4, 2), (.iaload, 1), (.iload_n 3, 1), (.if_icmp .le 13, 3), (.aload_n 0, 1), (.getfield 32, 3), (.iload 4, 2), (.iaload, 1), (.goto 4, 3), (.iload_n 3, 1), (.istore_n 3, 1), (.iinc 4 1, 3), (.goto (-105), 3), (.iload_n 1, 1), (.bipush 7, 2), (.if_icmp .ne 7, 3), (.iload_n 3, 1), (.goto 4, 3), (.iload_n 2, 1), (.ireturn, 1)]
abbrev fd_p170 : List Nat := [0, 1, 2, 3, 4, 5, 7, 9, 10, 13, 16, 17, 20, 22, 23, 26, 27, 30, 32, 33, 35, 38, 39, 42, 44, 45, 48, 51, 52, 55, 56, 58, 59, 60, 61, 64, 65, 68, 70, 71, 74, 76, 79, 80, 83, 84, 85, 86, 87, 90, 92, 93, 94, 97, 98, 101, 103, 104, 107, 108, 109, 112, 115, 116, 118, 121, 122, 125, 126, 127]
-- 171: FoldedStripsModel.bestSlide(II)I
noncomputable abbrev fd_c171 : List Instr := [.iload 1, .invokestatic 116, .ifCond .ne 5, .sipush (-1), .ireturn, .iload 2, .sipush 0, .sipush 1, .invokestatic 117, .ifCond .ne 12, .sipush (-2), .ireturn, .aload 0, .invokevirtual 172, .sipush 0, .istore 3, .aload 0, .invokevirtual 129, .istore 4, .sipush 0, .istore 5, .iload 5, .sipush 22, .if_icmp .ge 72, .iload 5, .sipush 2, .irem, .ifCond .ne 34, .sipush (-1), .iload 5, .sipush 2, .idiv, .isub, .goto 39, .sipush 1, .iload 5, .sipush 2, .idiv, .iadd, .istore 6, .aload 0, .iload 1, .iload 6, .invokevirtual 126, .ifCond .eq 70, .aload 0, .iload 1, .iload 6, .sipush 0, .sipush 0, .invokevirtual 127, .aload 0, .invokevirtual 129, .istore 7, .iload 7, .iload 4, .if_icmp .ge 59, .iload 6, .goto 60, .iload 3, .istore 3, .iload 7, .iload 4, .if_icmp .ge 66, .iload 7, .goto 67, .iload 4, .istore 4, .aload 0, .invokevirtual 173, .iinc 5 1, .goto 21, .iload 2, .ifCond .ne 78, .sipush 20, .iload 3, .iadd, .goto 79, .iload 4, .ireturn]
noncomputable abbrev fd_o171 : List (Instr × Nat) := [(.iload_n 1, 1), (.invokestatic 58, 3), (.ifCond .ne 5, 3), (.iconst (-1), 1), (.ireturn, 1), (.iload_n 2, 1), (.iconst 0, 1), (.iconst 1, 1), (.invokestatic 54, 3), (.ifCond .ne 6, 3), (.bipush (-2), 2), (.ireturn, 1), (.aload_n 0, 1), (.invokevirtual 217, 3), (.iconst 0, 1), (.istore_n 3, 1), (.aload_n 0, 1), (.invokevirtual 131, 3), (.istore 4, 2), (.iconst 0, 1), (.istore 5, 2), (.iload 5, 2), (.bipush 22, 2), (.if_icmp .ge 92, 3), (.iload 5, 2), (.iconst 2, 1), (.irem, 1), (.ifCond .ne 12, 3), (.iconst (-1), 1), (.iload 5, 2), (.iconst 2, 1), (.idiv, 1), (.isub, 1), (.goto 9, 3), (.iconst 1, 1), (.iload 5, 2), (.iconst 2, 1), (.idiv, 1), (.iadd, 1), (.istore 6, 2), (.aload_n 0, 1), (.iload_n 1, 1), (.iload 6, 2), (.invokevirtual 124, 3), (.ifCond .eq 52, 3), (.aload_n 0, 1), (.iload_n 1, 1), (.iload 6, 2), (.iconst 0, 1), (.iconst 0, 1), (.invokevirtual 127, 3), (.aload_n 0, 1), (.invokevirtual 131, 3), (.istore 7, 2), (.iload 7, 2), (.iload 4, 2), (.if_icmp .ge 8, 3), (.iload 6, 2), (.goto 4, 3), (.iload_n 3, 1), (.istore_n 3, 1), (.iload 7, 2), (.iload 4, 2), (.if_icmp .ge 8, 3), (.iload 7, 2), (.goto 5, 3), (.iload 4, 2), (.istore 4, 2), (.aload_n 0, 1), (.invokevirtual 220, 3), (.iinc 5 1, 3), (.goto (-93), 3), (.iload_n 2, 1), (.ifCond .ne 10, 3), (.bipush 20, 2), (.iload_n 3, 1), (.iadd, 1), (.goto 5, 3), (.iload 4, 2), (.ireturn, 1)]
abbrev fd_p171 : List Nat := [0, 1, 4, 7, 8, 9, 10, 11, 12, 15, 18, 20, 21, 22, 25, 26, 27, 28, 31, 33, 34, 36, 38, 40, 43, 45, 46, 47, 50, 51, 53, 54, 55, 56, 59, 60, 62, 63, 64, 65, 67, 68, 69, 71, 74, 77, 78, 79, 81, 82, 83, 86, 87, 90, 92, 94, 96, 99, 101, 104, 105, 106, 108, 110, 113, 115, 118, 120, 122, 123, 126, 129, 132, 133, 136, 138, 139, 140, 143, 145, 146]
-- 172: FoldedStripsModel.keepTrial()V
noncomputable abbrev fd_c172 : List Instr := [.sipush 0, .istore 1, .iload 1, .sipush 150, .if_icmp .ge 15, .aload 0, .invokeinterface 6 2, .iload 1, .aload 0, .invokeinterface 6 0, .iload 1, .iaload, .iastore, .iinc 1 1, .goto 2, .return_]
noncomputable abbrev fd_o172 : List (Instr × Nat) := [(.iconst 0, 1), (.istore_n 1, 1), (.iload_n 1, 1), (.sipush 150, 3), (.if_icmp .ge 21, 3), (.aload_n 0, 1), (.getfield 16, 3), (.iload_n 1, 1), (.aload_n 0, 1), (.getfield 7, 3), (.iload_n 1, 1), (.iaload, 1), (.iastore, 1), (.iinc 1 1, 3), (.goto (-22), 3), (.return_, 1)]
abbrev fd_p172 : List Nat := [0, 1, 2, 3, 6, 9, 10, 13, 14, 15, 18, 19, 20, 21, 24, 27, 28]
-- 173: FoldedStripsModel.putBack()V
noncomputable abbrev fd_c173 : List Instr := [.sipush 0, .istore 1, .iload 1, .sipush 150, .if_icmp .ge 15, .aload 0, .invokeinterface 6 0, .iload 1, .aload 0, .invokeinterface 6 2, .iload 1, .iaload, .iastore, .iinc 1 1, .goto 2, .return_]
noncomputable abbrev fd_o173 : List (Instr × Nat) := [(.iconst 0, 1), (.istore_n 1, 1), (.iload_n 1, 1), (.sipush 150, 3), (.if_icmp .ge 21, 3), (.aload_n 0, 1), (.getfield 7, 3), (.iload_n 1, 1), (.aload_n 0, 1), (.getfield 16, 3), (.iload_n 1, 1), (.iaload, 1), (.iastore, 1), (.iinc 1 1, 3), (.goto (-22), 3), (.return_, 1)]
abbrev fd_p173 : List Nat := [0, 1, 2, 3, 6, 9, 10, 13, 14, 15, 18, 19, 20, 21, 24, 27, 28]
-- 174: FoldedStripsModel.bestExchange(I)I
noncomputable abbrev fd_c174 : List Instr := [.iload 1, .sipush 0, .sipush 1, .invokestatic 117, .ifCond .ne 7, .sipush (-2), .ireturn, .sipush 0, .istore 2, .sipush 1000, .istore 3, .sipush 0, .istore 4, .iload 4, .sipush 36, .if_icmp .ge 66, .iload 4, .sipush 6, .idiv, .iload 4, .sipush 6, .irem, .if_icmp .ge 64, .aload 0, .iload 4, .sipush 6, .idiv, .iload 4, .sipush 6, .irem, .invokevirtual 135, .aload 0, .invokevirtual 129, .istore 5, .aload 0, .iload 4, .sipush 6, .idiv, .iload 4, .sipush 6, .irem, .invokevirtual 135, .iload 5, .iload 3, .if_icmp .ge 55, .sipush 10, .iload 4, .sipush 6, .idiv, .imul, .iload 4, .sipush 6, .irem, .iadd, .goto 56, .iload 2, .istore 2, .iload 5, .iload 3, .if_icmp .ge 62, .iload 5, .goto 63, .iload 3, .istore 3, .iinc 4 1, .goto 13, .iload 1, .ifCond .ne 70, .iload 2, .goto 71, .iload 3, .ireturn]
noncomputable abbrev fd_o174 : List (Instr × Nat) := [(.iload_n 1, 1), (.iconst 0, 1), (.iconst 1, 1), (.invokestatic 54, 3), (.ifCond .ne 6, 3), (.bipush (-2), 2), (.ireturn, 1), (.iconst 0, 1), (.istore_n 2, 1), (.sipush 1000, 3), (.istore_n 3, 1), (.iconst 0, 1), (.istore 4, 2), (.iload 4, 2), (.bipush 36, 2), (.if_icmp .ge 94, 3), (.iload 4, 2), (.bipush 6, 2), (.idiv, 1), (.iload 4, 2), (.bipush 6, 2), (.irem, 1), (.if_icmp .ge 75, 3), (.aload_n 0, 1), (.iload 4, 2), (.bipush 6, 2), (.idiv, 1), (.iload 4, 2), (.bipush 6, 2), (.irem, 1), (.invokevirtual 135, 3), (.aload_n 0, 1), (.invokevirtual 131, 3), (.istore 5, 2), (.aload_n 0, 1), (.iload 4, 2), (.bipush 6, 2), (.idiv, 1), (.iload 4, 2), (.bipush 6, 2), (.irem, 1), (.invokevirtual 135, 3), (.iload 5, 2), (.iload_n 3, 1), (.if_icmp .ge 20, 3), (.bipush 10, 2), (.iload 4, 2), (.bipush 6, 2), (.idiv, 1), (.imul, 1), (.iload 4, 2), (.bipush 6, 2), (.irem, 1), (.iadd, 1), (.goto 4, 3), (.iload_n 2, 1), (.istore_n 2, 1), (.iload 5, 2), (.iload_n 3, 1), (.if_icmp .ge 8, 3), (.iload 5, 2), (.goto 4, 3), (.iload_n 3, 1), (.istore_n 3, 1), (.iinc 4 1, 3), (.goto (-95), 3), (.iload_n 1, 1), (.ifCond .ne 7, 3), (.iload_n 2, 1), (.goto 4, 3), (.iload_n 3, 1), (.ireturn, 1)]
abbrev fd_p174 : List Nat := [0, 1, 2, 3, 6, 9, 11, 12, 13, 14, 17, 18, 19, 21, 23, 25, 28, 30, 32, 33, 35, 37, 38, 41, 42, 44, 46, 47, 49, 51, 52, 55, 56, 59, 61, 62, 64, 66, 67, 69, 71, 72, 75, 77, 78, 81, 83, 85, 87, 88, 89, 91, 93, 94, 95, 98, 99, 100, 102, 103, 106, 108, 111, 112, 113, 116, 119, 120, 123, 124, 127, 128, 129]
-- 175: FoldedStripsModel.ifTurned(III)I
noncomputable abbrev fd_c175 : List Instr := [.iload 1, .invokestatic 116, .ifCond .ne 5, .sipush (-1), .ireturn, .iload 2, .sipush 0, .sipush 2, .invokestatic 117, .ifCond .eq 15, .iload 3, .sipush 0, .sipush 2, .invokestatic 117, .ifCond .ne 17, .sipush (-2), .ireturn, .aload 0, .invokevirtual 172, .aload 0, .iload 1, .sipush 0, .iload 2, .sipush 1, .if_icmp .eq 27, .sipush 1, .goto 28, .sipush 0, .iload 2, .ifCond .eq 32, .sipush 1, .goto 33, .sipush 0, .invokevirtual 127, .aload 0, .invokevirtual 149, .iload 3, .ifCond .ne 41, .aload 0, .invokevirtual 129, .goto 50, .iload 3, .sipush 1, .if_icmp .ne 47, .aload 0, .invokeinterface 6 14, .goto 50, .aload 0, .sipush 2, .invokevirtual 170, .istore 4, .aload 0, .invokevirtual 173, .iload 4, .ireturn]
noncomputable abbrev fd_o175 : List (Instr × Nat) := [(.iload_n 1, 1), (.invokestatic 58, 3), (.ifCond .ne 5, 3), (.iconst (-1), 1), (.ireturn, 1), (.iload_n 2, 1), (.iconst 0, 1), (.iconst 2, 1), (.invokestatic 54, 3), (.ifCond .eq 12, 3), (.iload_n 3, 1), (.iconst 0, 1), (.iconst 2, 1), (.invokestatic 54, 3), (.ifCond .ne 6, 3), (.bipush (-2), 2), (.ireturn, 1), (.aload_n 0, 1), (.invokevirtual 217, 3), (.aload_n 0, 1), (.iload_n 1, 1), (.iconst 0, 1), (.iload_n 2, 1), (.iconst 1, 1), (.if_icmp .eq 7, 3), (.iconst 1, 1), (.goto 4, 3), (.iconst 0, 1), (.iload_n 2, 1), (.ifCond .eq 7, 3), (.iconst 1, 1), (.goto 4, 3), (.iconst 0, 1), (.invokevirtual 127, 3), (.aload_n 0, 1), (.invokevirtual 184, 3), (.iload_n 3, 1), (.ifCond .ne 10, 3), (.aload_n 0, 1), (.invokevirtual 131, 3), (.goto 20, 3), (.iload_n 3, 1), (.iconst 1, 1), (.if_icmp .ne 10, 3), (.aload_n 0, 1), (.getfield 96, 3), (.goto 8, 3), (.aload_n 0, 1), (.iconst 2, 1), (.invokevirtual 214, 3), (.istore 4, 2), (.aload_n 0, 1), (.invokevirtual 220, 3), (.iload 4, 2), (.ireturn, 1)]
abbrev fd_p175 : List Nat := [0, 1, 4, 7, 8, 9, 10, 11, 12, 15, 18, 19, 20, 21, 24, 27, 29, 30, 31, 34, 35, 36, 37, 38, 39, 42, 43, 46, 47, 48, 51, 52, 55, 56, 59, 60, 63, 64, 67, 68, 71, 74, 75, 76, 79, 80, 83, 86, 87, 88, 91, 93, 94, 97, 99, 100]
-- 176: FoldedStripsModel.put(J)I
noncomputable abbrev fd_c176 : List Instr := [.sipush 0, .istore 3, .lload 1, .lstore 4, .iload 3, .sipush 8, .if_icmp .ge 31, .lload 4, .goto_w 0, .lcmp, .ifCond .eq 31, .lload 4, .goto_w 255, .land, .lstore 6, .lload 6, .goto_w 33, .lcmp, .ifCond .lt 23, .lload 6, .goto_w 126, .lcmp, .ifCond .le 25, .sipush (-2), .ireturn, .lload 4, .sipush 8, .lushr, .lstore 4, .iinc 3 1, .goto 4, .iload 3, .ifCond .ne 35, .sipush (-2), .ireturn, .aload 0, .invokeinterface 6 15, .iload 3, .iadd, .sipush 60, .if_icmp .le 43, .sipush (-4), .ireturn, .iload 3, .sipush 1, .isub, .istore 6, .iload 6, .ifCond .lt 71, .aload 0, .invokeinterface 6 13, .aload 0, .invokeinterface 6 15, .lload 1, .sipush 8, .iload 6, .imul, .lushr, .goto_w 255, .land, .l2i, .i2c, .castore, .aload 0, .dup, .invokeinterface 6 15, .sipush 1, .iadd, .multianewarray 6 15, .iinc 6 (-1), .goto 47, .aload 0, .invokeinterface 6 15, .ireturn]
noncomputable abbrev fd_o176 : List (Instr × Nat) := [(.iconst 0, 1), (.istore_n 3, 1), (.lload_n 1, 1), (.lstore 4, 2), (.iload_n 3, 1), (.bipush 8, 2), (.if_icmp .ge 52, 3), (.lload 4, 2), (.lconst 0, 1), (.lcmp, 1), (.ifCond .eq 45, 3), (.lload 4, 2), (.ldc2_w 223, 3), (.land, 1), (.lstore 6, 2), (.lload 6, 2), (.ldc2_w 225, 3), (.lcmp, 1), (.ifCond .lt 12, 3), (.lload 6, 2), (.ldc2_w 227, 3), (.lcmp, 1), (.ifCond .le 6, 3), (.bipush (-2), 2), (.ireturn, 1), (.lload 4, 2), (.bipush 8, 2), (.lushr, 1), (.lstore 4, 2), (.iinc 3 1, 3), (.goto (-52), 3), (.iload_n 3, 1), (.ifCond .ne 6, 3), (.bipush (-2), 2), (.ireturn, 1), (.aload_n 0, 1), (.getfield 142, 3), (.iload_n 3, 1), (.iadd, 1), (.bipush 60, 2), (.if_icmp .le 6, 3), (.bipush (-4), 2), (.ireturn, 1), (.iload_n 3, 1), (.iconst 1, 1), (.isub, 1), (.istore 6, 2), (.iload 6, 2), (.ifCond .lt 41, 3), (.aload_n 0, 1), (.getfield 50, 3), (.aload_n 0, 1), (.getfield 142, 3), (.lload_n 1, 1), (.bipush 8, 2), (.iload 6, 2), (.imul, 1), (.lushr, 1), (.ldc2_w 223, 3), (.land, 1), (.l2i, 1), (.i2c, 1), (.castore, 1), (.aload_n 0, 1), (.dup, 1), (.getfield 142, 3), (.iconst 1, 1), (.iadd, 1), (.putfield 142, 3), (.iinc 6 (-1), 3), (.goto (-40), 3), (.aload_n 0, 1), (.getfield 142, 3), (.ireturn, 1)]
abbrev fd_p176 : List Nat := [0, 1, 2, 3, 5, 6, 8, 11, 13, 14, 15, 18, 20, 23, 24, 26, 28, 31, 32, 35, 37, 40, 41, 44, 46, 47, 49, 51, 52, 54, 57, 60, 61, 64, 66, 67, 68, 71, 72, 73, 75, 78, 80, 81, 82, 83, 84, 86, 88, 91, 92, 95, 96, 99, 100, 102, 104, 105, 106, 109, 110, 111, 112, 113, 114, 115, 118, 119, 120, 123, 126, 129, 130, 133, 134]
-- 177: FoldedStripsModel.wipe()I
noncomputable abbrev fd_c177 : List Instr := [.aload 0, .invokeinterface 6 15, .istore 1, .aload 0, .sipush 0, .multianewarray 6 15, .iload 1, .ireturn]
noncomputable abbrev fd_o177 : List (Instr × Nat) := [(.aload_n 0, 1), (.getfield 142, 3), (.istore_n 1, 1), (.aload_n 0, 1), (.iconst 0, 1), (.putfield 142, 3), (.iload_n 1, 1), (.ireturn, 1)]
abbrev fd_p177 : List Nat := [0, 1, 4, 5, 6, 7, 10, 11, 12]
-- 178: FoldedStripsModel.fault()I
noncomputable abbrev fd_c178 : List Instr := [.aload 0, .invokevirtual 138, .istore 1, .iload 1, .ifCond .ge 7, .sipush (-6), .goto 8, .iload 1, .ireturn]
noncomputable abbrev fd_o178 : List (Instr × Nat) := [(.aload_n 0, 1), (.invokevirtual 181, 3), (.istore_n 1, 1), (.iload_n 1, 1), (.ifCond .ge 8, 3), (.bipush (-6), 2), (.goto 4, 3), (.iload_n 1, 1), (.ireturn, 1)]
abbrev fd_p178 : List Nat := [0, 1, 4, 5, 6, 9, 11, 14, 15, 16]
-- 179: FoldedStripsModel.undo()I
noncomputable abbrev fd_c179 : List Instr := [.aload 0, .invokeinterface 6 16, .ifCond .ne 5, .sipush (-5), .ireturn, .aload 0, .dup, .invokeinterface 6 16, .sipush 1, .isub, .multianewarray 6 16, .sipush 0, .istore 1, .iload 1, .sipush 150, .if_icmp .ge 31, .aload 0, .invokeinterface 6 0, .iload 1, .aload 0, .invokeinterface 6 3, .sipush 150, .aload 0, .invokeinterface 6 16, .imul, .iload 1, .iadd, .iaload, .iastore, .iinc 1 1, .goto 13, .aload 0, .invokeinterface 6 16, .ireturn]
noncomputable abbrev fd_o179 : List (Instr × Nat) := [(.aload_n 0, 1), (.getfield 62, 3), (.ifCond .ne 6, 3), (.bipush (-5), 2), (.ireturn, 1), (.aload_n 0, 1), (.dup, 1), (.getfield 62, 3), (.iconst 1, 1), (.isub, 1), (.putfield 62, 3), (.iconst 0, 1), (.istore_n 1, 1), (.iload_n 1, 1), (.sipush 150, 3), (.if_icmp .ge 30, 3), (.aload_n 0, 1), (.getfield 7, 3), (.iload_n 1, 1), (.aload_n 0, 1), (.getfield 19, 3), (.sipush 150, 3), (.aload_n 0, 1), (.getfield 62, 3), (.imul, 1), (.iload_n 1, 1), (.iadd, 1), (.iaload, 1), (.iastore, 1), (.iinc 1 1, 3), (.goto (-31), 3), (.aload_n 0, 1), (.getfield 62, 3), (.ireturn, 1)]
abbrev fd_p179 : List Nat := [0, 1, 4, 7, 9, 10, 11, 12, 15, 16, 17, 20, 21, 22, 23, 26, 29, 30, 33, 34, 35, 38, 41, 42, 45, 46, 47, 48, 49, 50, 53, 56, 57, 60, 61]
-- 180: FoldedStripsModel.save(I)I
noncomputable abbrev fd_c180 : List Instr := [.iload 1, .sipush 0, .sipush 1, .invokestatic 117, .ifCond .ne 7, .sipush (-2), .ireturn, .sipush 0, .istore 2, .iload 2, .sipush 150, .if_icmp .ge 26, .aload 0, .invokeinterface 6 4, .sipush 150, .iload 1, .imul, .iload 2, .iadd, .aload 0, .invokeinterface 6 0, .iload 2, .iaload, .iastore, .iinc 2 1, .goto 9, .aload 0, .invokeinterface 6 5, .iload 1, .sipush 1, .bastore, .aload 0, .sipush 0, .invokevirtual 169, .ireturn]
noncomputable abbrev fd_o180 : List (Instr × Nat) := [(.iload_n 1, 1), (.iconst 0, 1), (.iconst 1, 1), (.invokestatic 54, 3), (.ifCond .ne 6, 3), (.bipush (-2), 2), (.ireturn, 1), (.iconst 0, 1), (.istore_n 2, 1), (.iload_n 2, 1), (.sipush 150, 3), (.if_icmp .ge 27, 3), (.aload_n 0, 1), (.getfield 22, 3), (.sipush 150, 3), (.iload_n 1, 1), (.imul, 1), (.iload_n 2, 1), (.iadd, 1), (.aload_n 0, 1), (.getfield 7, 3), (.iload_n 2, 1), (.iaload, 1), (.iastore, 1), (.iinc 2 1, 3), (.goto (-28), 3), (.aload_n 0, 1), (.getfield 25, 3), (.iload_n 1, 1), (.iconst 1, 1), (.bastore, 1), (.aload_n 0, 1), (.iconst 0, 1), (.invokevirtual 211, 3), (.ireturn, 1)]
abbrev fd_p180 : List Nat := [0, 1, 2, 3, 6, 9, 11, 12, 13, 14, 15, 18, 21, 22, 25, 28, 29, 30, 31, 32, 33, 36, 37, 38, 39, 42, 45, 46, 49, 50, 51, 52, 53, 54, 57, 58]
-- 181: FoldedStripsModel.restore(I)I
noncomputable abbrev fd_c181 : List Instr := [.iload 1, .sipush 0, .sipush 1, .invokestatic 117, .ifCond .ne 7, .sipush (-2), .ireturn, .aload 0, .invokeinterface 6 5, .iload 1, .baload, .ifCond .ne 14, .sipush (-5), .ireturn, .aload 0, .invokevirtual 119, .sipush 0, .istore 2, .iload 2, .sipush 150, .if_icmp .ge 35, .aload 0, .invokeinterface 6 0, .iload 2, .aload 0, .invokeinterface 6 4, .sipush 150, .iload 1, .imul, .iload 2, .iadd, .iaload, .iastore, .iinc 2 1, .goto 18, .aload 0, .sipush 0, .invokevirtual 169, .ireturn]
noncomputable abbrev fd_o181 : List (Instr × Nat) := [(.iload_n 1, 1), (.iconst 0, 1), (.iconst 1, 1), (.invokestatic 54, 3), (.ifCond .ne 6, 3), (.bipush (-2), 2), (.ireturn, 1), (.aload_n 0, 1), (.getfield 25, 3), (.iload_n 1, 1), (.baload, 1), (.ifCond .ne 6, 3), (.bipush (-5), 2), (.ireturn, 1), (.aload_n 0, 1), (.invokevirtual 107, 3), (.iconst 0, 1), (.istore_n 2, 1), (.iload_n 2, 1), (.sipush 150, 3), (.if_icmp .ge 27, 3), (.aload_n 0, 1), (.getfield 7, 3), (.iload_n 2, 1), (.aload_n 0, 1), (.getfield 22, 3), (.sipush 150, 3), (.iload_n 1, 1), (.imul, 1), (.iload_n 2, 1), (.iadd, 1), (.iaload, 1), (.iastore, 1), (.iinc 2 1, 3), (.goto (-28), 3), (.aload_n 0, 1), (.iconst 0, 1), (.invokevirtual 211, 3), (.ireturn, 1)]
abbrev fd_p181 : List Nat := [0, 1, 2, 3, 6, 9, 11, 12, 13, 16, 17, 18, 21, 23, 24, 25, 28, 29, 30, 31, 34, 37, 38, 41, 42, 43, 46, 49, 50, 51, 52, 53, 54, 55, 58, 61, 62, 63, 66, 67]
-- 182: java/lang/Integer.bitCount(I)I
noncomputable abbrev fd_c182 : List Instr := [.iload 0, .iload 0, .sipush 1, .iushr, .sipush 1431655765, .iand, .isub, .istore 0, .iload 0, .sipush 858993459, .iand, .iload 0, .sipush 2, .iushr, .sipush 858993459, .iand, .iadd, .istore 0, .iload 0, .iload 0, .sipush 4, .iushr, .iadd, .sipush 252645135, .iand, .istore 0, .iload 0, .iload 0, .sipush 8, .iushr, .iadd, .istore 0, .iload 0, .iload 0, .sipush 16, .iushr, .iadd, .istore 0, .iload 0, .sipush 63, .iand, .ireturn]
noncomputable abbrev fd_o182 : List (Instr × Nat) := [(.iload_n 0, 1), (.iload_n 0, 1), (.iconst 1, 1), (.iushr, 1), (.ldc_w 265, 3), (.iand, 1), (.isub, 1), (.istore_n 0, 1), (.iload_n 0, 1), (.ldc_w 266, 3), (.iand, 1), (.iload_n 0, 1), (.iconst 2, 1), (.iushr, 1), (.ldc_w 266, 3), (.iand, 1), (.iadd, 1), (.istore_n 0, 1), (.iload_n 0, 1), (.iload_n 0, 1), (.iconst 4, 1), (.iushr, 1), (.iadd, 1), (.ldc_w 267, 3), (.iand, 1), (.istore_n 0, 1), (.iload_n 0, 1), (.iload_n 0, 1), (.bipush 8, 2), (.iushr, 1), (.iadd, 1), (.istore_n 0, 1), (.iload_n 0, 1), (.iload_n 0, 1), (.bipush 16, 2), (.iushr, 1), (.iadd, 1), (.istore_n 0, 1), (.iload_n 0, 1), (.bipush 63, 2), (.iand, 1), (.ireturn, 1)]
abbrev fd_p182 : List Nat := [0, 1, 2, 3, 4, 7, 8, 9, 10, 11, 14, 15, 16, 17, 18, 21, 22, 23, 24, 25, 26, 27, 28, 29, 32, 33, 34, 35, 36, 38, 39, 40, 41, 42, 43, 45, 46, 47, 48, 49, 51, 52, 53]
-- 183: java/util/Arrays.fill([II)V
noncomputable abbrev fd_c183 : List Instr := [.sipush 0, .istore 2, .aload 0, .arraylength, .istore 3, .iload 2, .iload 3, .if_icmp .ge 14, .aload 0, .iload 2, .iload 1, .iastore, .iinc 2 1, .goto 5, .return_]
noncomputable abbrev fd_o183 : List (Instr × Nat) := [(.iconst 0, 1), (.istore_n 2, 1), (.aload_n 0, 1), (.arraylength, 1), (.istore_n 3, 1), (.iload_n 2, 1), (.iload_n 3, 1), (.if_icmp .ge 13, 3), (.aload_n 0, 1), (.iload_n 2, 1), (.iload_n 1, 1), (.iastore, 1), (.iinc 2 1, 3), (.goto (-12), 3), (.return_, 1)]
abbrev fd_p183 : List Nat := [0, 1, 2, 3, 4, 5, 6, 7, 10, 11, 12, 13, 14, 17, 20, 21]
-- 184: FoldedStrips.<init>()V
noncomputable abbrev fd_c184 : List Instr := [.return_]
noncomputable abbrev fd_o184 : List (Instr × Nat) := [(.return_, 1)]
abbrev fd_p184 : List Nat := [70, 71]
-- 185: FoldedStrips$History.<init>()V
noncomputable abbrev fd_c185 : List Instr := []
noncomputable abbrev fd_o185 : List (Instr × Nat) := []
abbrev fd_p185 : List Nat := []
-- 186: FoldedStrips$Lines.<init>()V
noncomputable abbrev fd_c186 : List Instr := [.return_]
noncomputable abbrev fd_o186 : List (Instr × Nat) := [(.return_, 1)]
abbrev fd_p186 : List Nat := [66, 67]
-- 187: FoldedStrips$Pad.<init>()V
noncomputable abbrev fd_c187 : List Instr := [.return_]
noncomputable abbrev fd_o187 : List (Instr × Nat) := [(.return_, 1)]
abbrev fd_p187 : List Nat := [17, 18]
-- 188: FoldedStrips$Slots.<init>()V
noncomputable abbrev fd_c188 : List Instr := []
noncomputable abbrev fd_o188 : List (Instr × Nat) := []
abbrev fd_p188 : List Nat := []
-- 189: FoldedStrips$Strip.<init>()V
noncomputable abbrev fd_c189 : List Instr := [.sipush 0, .istore 1, .iload 1, .sipush 144, .if_icmp .ge 12, .aload 0, .invokeinterface 5 0, .iload 1, .sipush (-1), .iastore, .iinc 1 1, .goto 2, .sipush 0, .istore 1, .iload 1, .sipush 6, .if_icmp .ge 24, .aload 0, .invokeinterface 5 1, .iload 1, .iload 1, .iastore, .iinc 1 1, .goto 14, .return_]
noncomputable abbrev fd_o189 : List (Instr × Nat) := [(.iconst 0, 1), (.istore_n 1, 1), (.iload_n 1, 1), (.sipush 144, 3), (.if_icmp .ge 16, 3), (.aload_n 0, 1), (.getfield 9, 3), (.iload_n 1, 1), (.iconst (-1), 1), (.iastore, 1), (.iinc 1 1, 3), (.goto (-17), 3), (.iconst 0, 1), (.istore_n 1, 1), (.iload_n 1, 1), (.bipush 6, 2), (.if_icmp .ge 16, 3), (.aload_n 0, 1), (.getfield 15, 3), (.iload_n 1, 1), (.iload_n 1, 1), (.iastore, 1), (.iinc 1 1, 3), (.goto (-16), 3), (.return_, 1)]
abbrev fd_p189 : List Nat := [29, 30, 31, 32, 35, 38, 39, 42, 43, 44, 45, 48, 51, 52, 53, 54, 56, 59, 60, 63, 64, 65, 66, 69, 72, 73]
-- 190: FoldedStripsModel.<init>()V
noncomputable abbrev fd_c190 : List Instr := [.sipush 0, .istore 1, .iload 1, .sipush 6, .if_icmp .ge 14, .aload 0, .invokeinterface 6 0, .sipush 144, .iload 1, .iadd, .iload 1, .iastore, .iinc 1 1, .goto 2, .return_]
noncomputable abbrev fd_o190 : List (Instr × Nat) := [(.iconst 0, 1), (.istore_n 1, 1), (.iload_n 1, 1), (.bipush 6, 2), (.if_icmp .ge 20, 3), (.aload_n 0, 1), (.getfield 7, 3), (.sipush 144, 3), (.iload_n 1, 1), (.iadd, 1), (.iload_n 1, 1), (.iastore, 1), (.iinc 1 1, 3), (.goto (-20), 3), (.return_, 1)]
abbrev fd_p190 : List Nat := [121, 122, 123, 124, 126, 129, 130, 133, 136, 137, 138, 139, 140, 143, 146, 147]
-- 191: FoldedStripsLaw.law([I)Z
noncomputable abbrev fd_c191 : List Instr := [.sipush 0, .istore 3, .iload 3, .aload 0, .arraylength, .sipush 4, .isub, .if_icmp .gt 561, .aload 0, .iload 3, .iaload, .sipush 31, .iand, .tableswitch 559 0 22 #[14, 41, 78, 105, 122, 149, 176, 203, 220, 257, 284, 311, 338, 365, 382, 409, 426, 463, 504, 511, 518, 525, 542], .aload 1, .aload 0, .iload 3, .sipush 1, .iadd, .iaload, .aload 0, .iload 3, .sipush 2, .iadd, .iaload, .invokevirtual 0, .aload 2, .aload 0, .iload 3, .sipush 1, .iadd, .iaload, .aload 0, .iload 3, .sipush 2, .iadd, .iaload, .invokevirtual 137, .if_icmp .eq 559, .sipush 0, .ireturn, .aload 1, .aload 0, .iload 3, .sipush 1, .iadd, .iaload, .aload 0, .iload 3, .sipush 2, .iadd, .iaload, .aload 0, .iload 3, .sipush 3, .iadd, .iaload, .invokevirtual 8, .aload 2, .aload 0, .iload 3, .sipush 1, .iadd, .iaload, .aload 0, .iload 3, .sipush 2, .iadd, .iaload, .aload 0, .iload 3, .sipush 3, .iadd, .iaload, .invokevirtual 114, .if_icmp .eq 559, .sipush 0, .ireturn, .aload 1, .aload 0, .iload 3, .sipush 1, .iadd, .iaload, .aload 0, .iload 3, .sipush 2, .iadd, .iaload, .invokevirtual 9, .aload 2, .aload 0, .iload 3, .sipush 1, .iadd, .iaload, .aload 0, .iload 3, .sipush 2, .iadd, .iaload, .invokevirtual 122, .if_icmp .eq 559, .sipush 0, .ireturn, .aload 1, .aload 0, .iload 3, .sipush 1, .iadd, .iaload, .invokevirtual 10, .aload 2, .aload 0, .iload 3, .sipush 1, .iadd, .iaload, .invokevirtual 123, .if_icmp .eq 559, .sipush 0, .ireturn, .aload 1, .aload 0, .iload 3, .sipush 1, .iadd, .iaload, .aload 0, .iload 3, .sipush 2, .iadd, .iaload, .invokevirtual 11, .aload 2, .aload 0, .iload 3, .sipush 1, .iadd, .iaload, .aload 0, .iload 3, .sipush 2, .iadd, .iaload, .invokevirtual 125, .if_icmp .eq 559, .sipush 0, .ireturn, .aload 1, .aload 0, .iload 3, .sipush 1, .iadd, .iaload, .aload 0, .iload 3, .sipush 2, .iadd, .iaload, .invokevirtual 12, .aload 2, .aload 0, .iload 3, .sipush 1, .iadd, .iaload, .aload 0, .iload 3, .sipush 2, .iadd, .iaload, .invokevirtual 133, .if_icmp .eq 559, .sipush 0, .ireturn, .aload 1, .aload 0, .iload 3, .sipush 1, .iadd, .iaload, .aload 0, .iload 3, .sipush 2, .iadd, .iaload, .invokevirtual 14, .aload 2, .aload 0, .iload 3, .sipush 1, .iadd, .iaload, .aload 0, .iload 3, .sipush 2, .iadd, .iaload, .invokevirtual 134, .if_icmp .eq 559, .sipush 0, .ireturn, .aload 1, .aload 0, .iload 3, .sipush 1, .iadd, .iaload, .invokevirtual 15, .aload 2, .aload 0, .iload 3, .sipush 1, .iadd, .iaload, .invokevirtual 136, .if_icmp .eq 559, .sipush 0, .ireturn, .aload 1, .aload 0, .iload 3, .sipush 1, .iadd, .iaload, .aload 0, .iload 3, .sipush 2, .iadd, .iaload, .aload 0, .iload 3, .sipush 3, .iadd, .iaload, .invokevirtual 16, .aload 2, .aload 0, .iload 3, .sipush 1, .iadd, .iaload, .aload 0, .iload 3, .sipush 2, .iadd, .iaload, .aload 0, .iload 3, .sipush 3, .iadd, .iaload, .invokevirtual 148, .if_icmp .eq 559, .sipush 0, .ireturn, .aload 1, .aload 0, .iload 3, .sipush 1, .iadd, .iaload, .aload 0, .iload 3, .sipush 2, .iadd, .iaload, .invokevirtual 19, .aload 2, .aload 0, .iload 3, .sipush 1, .iadd, .iaload, .aload 0, .iload 3, .sipush 2, .iadd, .iaload, .invokevirtual 156, .if_icmp .eq 559, .sipush 0, .ireturn, .aload 1, .aload 0, .iload 3, .sipush 1, .iadd, .iaload, .aload 0, .iload 3, .sipush 2, .iadd, .iaload, .invokevirtual 20, .aload 2, .aload 0, .iload 3, .sipush 1, .iadd, .iaload, .aload 0, .iload 3, .sipush 2, .iadd, .iaload, .invokevirtual 161, .if_icmp .eq 559, .sipush 0, .ireturn, .aload 1, .aload 0, .iload 3, .sipush 1, .iadd, .iaload, .aload 0, .iload 3, .sipush 2, .iadd, .iaload, .invokevirtual 22, .aload 2, .aload 0, .iload 3, .sipush 1, .iadd, .iaload, .aload 0, .iload 3, .sipush 2, .iadd, .iaload, .invokevirtual 163, .if_icmp .eq 559, .sipush 0, .ireturn, .aload 1, .aload 0, .iload 3, .sipush 1, .iadd, .iaload, .aload 0, .iload 3, .sipush 2, .iadd, .iaload, .invokevirtual 23, .aload 2, .aload 0, .iload 3, .sipush 1, .iadd, .iaload, .aload 0, .iload 3, .sipush 2, .iadd, .iaload, .invokevirtual 166, .if_icmp .eq 559, .sipush 0, .ireturn, .aload 1, .aload 0, .iload 3, .sipush 1, .iadd, .iaload, .invokevirtual 24, .aload 2, .aload 0, .iload 3, .sipush 1, .iadd, .iaload, .invokevirtual 168, .if_icmp .eq 559, .sipush 0, .ireturn, .aload 1, .aload 0, .iload 3, .sipush 1, .iadd, .iaload, .aload 0, .iload 3, .sipush 2, .iadd, .iaload, .invokevirtual 26, .aload 2, .aload 0, .iload 3, .sipush 1, .iadd, .iaload, .aload 0, .iload 3, .sipush 2, .iadd, .iaload, .invokevirtual 171, .if_icmp .eq 559, .sipush 0, .ireturn, .aload 1, .aload 0, .iload 3, .sipush 1, .iadd, .iaload, .invokevirtual 28, .aload 2, .aload 0, .iload 3, .sipush 1, .iadd, .iaload, .invokevirtual 174, .if_icmp .eq 559, .sipush 0, .ireturn, .aload 1, .aload 0, .iload 3, .sipush 1, .iadd, .iaload, .aload 0, .iload 3, .sipush 2, .iadd, .iaload, .aload 0, .iload 3, .sipush 3, .iadd, .iaload, .invokevirtual 30, .aload 2, .aload 0, .iload 3, .sipush 1, .iadd, .iaload, .aload 0, .iload 3, .sipush 2, .iadd, .iaload, .aload 0, .iload 3, .sipush 3, .iadd, .iaload, .invokevirtual 175, .if_icmp .eq 559, .sipush 0, .ireturn, .aload 1, .aload 0, .iload 3, .sipush 1, .iadd, .iaload, .i2l, .sipush 32, .lshl, .aload 0, .iload 3, .sipush 2, .iadd, .iaload, .i2l, .goto_w 4294967295, .land, .lor, .invokevirtual 31, .aload 2, .aload 0, .iload 3, .sipush 1, .iadd, .iaload, .i2l, .sipush 32, .lshl, .aload 0, .iload 3, .sipush 2, .iadd, .iaload, .i2l, .goto_w 4294967295, .land, .lor, .invokevirtual 176, .if_icmp .eq 559, .sipush 0, .ireturn, .aload 1, .invokevirtual 32, .aload 2, .invokevirtual 177, .if_icmp .eq 559, .sipush 0, .ireturn, .aload 1, .invokevirtual 33, .aload 2, .invokevirtual 178, .if_icmp .eq 559, .sipush 0, .ireturn, .aload 1, .invokevirtual 34, .aload 2, .invokevirtual 179, .if_icmp .eq 559, .sipush 0, .ireturn, .aload 1, .aload 0, .iload 3, .sipush 1, .iadd, .iaload, .invokevirtual 35, .aload 2, .aload 0, .iload 3, .sipush 1, .iadd, .iaload, .invokevirtual 180, .if_icmp .eq 559, .sipush 0, .ireturn, .aload 1, .aload 0, .iload 3, .sipush 1, .iadd, .iaload, .invokevirtual 37, .aload 2, .aload 0, .iload 3, .sipush 1, .iadd, .iaload, .invokevirtual 181, .if_icmp .eq 559, .sipush 0, .ireturn, .iinc 3 4, .goto 2, .sipush 1, .ireturn]
noncomputable abbrev fd_o191 : List (Instr × Nat) := [(.iconst 0, 1), (.istore_n 3, 1), (.iload_n 3, 1), (.aload_n 0, 1), (.arraylength, 1), (.iconst 4, 1), (.isub, 1), (.if_icmp .gt 812, 3), (.aload_n 0, 1), (.iload_n 3, 1), (.iaload, 1), (.bipush 31, 2), (.iand, 1), (.tableswitch 797 0 22 #[108, 141, 184, 217, 240, 273, 306, 339, 362, 405, 438, 471, 504, 537, 560, 593, 616, 659, 712, 725, 738, 751, 774], 108), (.aload_n 1, 1), (.aload_n 0, 1), (.iload_n 3, 1), (.iconst 1, 1), (.iadd, 1), (.iaload, 1), (.aload_n 0, 1), (.iload_n 3, 1), (.iconst 2, 1), (.iadd, 1), (.iaload, 1), (.invokevirtual 13, 3), (.aload_n 2, 1), (.aload_n 0, 1), (.iload_n 3, 1), (.iconst 1, 1), (.iadd, 1), (.iaload, 1), (.aload_n 0, 1), (.iload_n 3, 1), (.iconst 2, 1), (.iadd, 1), (.iaload, 1), (.invokevirtual 17, 3), (.if_icmp .eq 661, 3), (.iconst 0, 1), (.ireturn, 1), (.aload_n 1, 1), (.aload_n 0, 1), (.iload_n 3, 1), (.iconst 1, 1), (.iadd, 1), (.iaload, 1), (.aload_n 0, 1), (.iload_n 3, 1), (.iconst 2, 1), (.iadd, 1), (.iaload, 1), (.aload_n 0, 1), (.iload_n 3, 1), (.iconst 3, 1), (.iadd, 1), (.iaload, 1), (.invokevirtual 18, 3), (.aload_n 2, 1), (.aload_n 0, 1), (.iload_n 3, 1), (.iconst 1, 1), (.iadd, 1), (.iaload, 1), (.aload_n 0, 1), (.iload_n 3, 1), (.iconst 2, 1), (.iadd, 1), (.iaload, 1), (.aload_n 0, 1), (.iload_n 3, 1), (.iconst 3, 1), (.iadd, 1), (.iaload, 1), (.invokevirtual 22, 3), (.if_icmp .eq 618, 3), (.iconst 0, 1), (.ireturn, 1), (.aload_n 1, 1), (.aload_n 0, 1), (.iload_n 3, 1), (.iconst 1, 1), (.iadd, 1), (.iaload, 1), (.aload_n 0, 1), (.iload_n 3, 1), (.iconst 2, 1), (.iadd, 1), (.iaload, 1), (.invokevirtual 23, 3), (.aload_n 2, 1), (.aload_n 0, 1), (.iload_n 3, 1), (.iconst 1, 1), (.iadd, 1), (.iaload, 1), (.aload_n 0, 1), (.iload_n 3, 1), (.iconst 2, 1), (.iadd, 1), (.iaload, 1), (.invokevirtual 26, 3), (.if_icmp .eq 585, 3), (.iconst 0, 1), (.ireturn, 1), (.aload_n 1, 1), (.aload_n 0, 1), (.iload_n 3, 1), (.iconst 1, 1), (.iadd, 1), (.iaload, 1), (.invokevirtual 27, 3), (.aload_n 2, 1), (.aload_n 0, 1), (.iload_n 3, 1), (.iconst 1, 1), (.iadd, 1), (.iaload, 1), (.invokevirtual 31, 3), (.if_icmp .eq 562, 3), (.iconst 0, 1), (.ireturn, 1), (.aload_n 1, 1), (.aload_n 0, 1), (.iload_n 3, 1), (.iconst 1, 1), (.iadd, 1), (.iaload, 1), (.aload_n 0, 1), (.iload_n 3, 1), (.iconst 2, 1), (.iadd, 1), (.iaload, 1), (.invokevirtual 32, 3), (.aload_n 2, 1), (.aload_n 0, 1), (.iload_n 3, 1), (.iconst 1, 1), (.iadd, 1), (.iaload, 1), (.aload_n 0, 1), (.iload_n 3, 1), (.iconst 2, 1), (.iadd, 1), (.iaload, 1), (.invokevirtual 35, 3), (.if_icmp .eq 529, 3), (.iconst 0, 1), (.ireturn, 1), (.aload_n 1, 1), (.aload_n 0, 1), (.iload_n 3, 1), (.iconst 1, 1), (.iadd, 1), (.iaload, 1), (.aload_n 0, 1), (.iload_n 3, 1), (.iconst 2, 1), (.iadd, 1), (.iaload, 1), (.invokevirtual 36, 3), (.aload_n 2, 1), (.aload_n 0, 1), (.iload_n 3, 1), (.iconst 1, 1), (.iadd, 1), (.iaload, 1), (.aload_n 0, 1), (.iload_n 3, 1), (.iconst 2, 1), (.iadd, 1), (.iaload, 1), (.invokevirtual 39, 3), (.if_icmp .eq 496, 3), (.iconst 0, 1), (.ireturn, 1), (.aload_n 1, 1), (.aload_n 0, 1), (.iload_n 3, 1), (.iconst 1, 1), (.iadd, 1), (.iaload, 1), (.aload_n 0, 1), (.iload_n 3, 1), (.iconst 2, 1), (.iadd, 1), (.iaload, 1), (.invokevirtual 40, 3), (.aload_n 2, 1), (.aload_n 0, 1), (.iload_n 3, 1), (.iconst 1, 1), (.iadd, 1), (.iaload, 1), (.aload_n 0, 1), (.iload_n 3, 1), (.iconst 2, 1), (.iadd, 1), (.iaload, 1), (.invokevirtual 43, 3), (.if_icmp .eq 463, 3), (.iconst 0, 1), (.ireturn, 1), (.aload_n 1, 1), (.aload_n 0, 1), (.iload_n 3, 1), (.iconst 1, 1), (.iadd, 1), (.iaload, 1), (.invokevirtual 44, 3), (.aload_n 2, 1), (.aload_n 0, 1), (.iload_n 3, 1), (.iconst 1, 1), (.iadd, 1), (.iaload, 1), (.invokevirtual 47, 3), (.if_icmp .eq 440, 3), (.iconst 0, 1), (.ireturn, 1), (.aload_n 1, 1), (.aload_n 0, 1), (.iload_n 3, 1), (.iconst 1, 1), (.iadd, 1), (.iaload, 1), (.aload_n 0, 1), (.iload_n 3, 1), (.iconst 2, 1), (.iadd, 1), (.iaload, 1), (.aload_n 0, 1), (.iload_n 3, 1), (.iconst 3, 1), (.iadd, 1), (.iaload, 1), (.invokevirtual 48, 3), (.aload_n 2, 1), (.aload_n 0, 1), (.iload_n 3, 1), (.iconst 1, 1), (.iadd, 1), (.iaload, 1), (.aload_n 0, 1), (.iload_n 3, 1), (.iconst 2, 1), (.iadd, 1), (.iaload, 1), (.aload_n 0, 1), (.iload_n 3, 1), (.iconst 3, 1), (.iadd, 1), (.iaload, 1), (.invokevirtual 51, 3), (.if_icmp .eq 397, 3), (.iconst 0, 1), (.ireturn, 1), (.aload_n 1, 1), (.aload_n 0, 1), (.iload_n 3, 1), (.iconst 1, 1), (.iadd, 1), (.iaload, 1), (.aload_n 0, 1), (.iload_n 3, 1), (.iconst 2, 1), (.iadd, 1), (.iaload, 1), (.invokevirtual 52, 3), (.aload_n 2, 1), (.aload_n 0, 1), (.iload_n 3, 1), (.iconst 1, 1), (.iadd, 1), (.iaload, 1), (.aload_n 0, 1), (.iload_n 3, 1), (.iconst 2, 1), (.iadd, 1), (.iaload, 1), (.invokevirtual 55, 3), (.if_icmp .eq 364, 3), (.iconst 0, 1), (.ireturn, 1), (.aload_n 1, 1), (.aload_n 0, 1), (.iload_n 3, 1), (.iconst 1, 1), (.iadd, 1), (.iaload, 1), (.aload_n 0, 1), (.iload_n 3, 1), (.iconst 2, 1), (.iadd, 1), (.iaload, 1), (.invokevirtual 56, 3), (.aload_n 2, 1), (.aload_n 0, 1), (.iload_n 3, 1), (.iconst 1, 1), (.iadd, 1), (.iaload, 1), (.aload_n 0, 1), (.iload_n 3, 1), (.iconst 2, 1), (.iadd, 1), (.iaload, 1), (.invokevirtual 59, 3), (.if_icmp .eq 331, 3), (.iconst 0, 1), (.ireturn, 1), (.aload_n 1, 1), (.aload_n 0, 1), (.iload_n 3, 1), (.iconst 1, 1), (.iadd, 1), (.iaload, 1), (.aload_n 0, 1), (.iload_n 3, 1), (.iconst 2, 1), (.iadd, 1), (.iaload, 1), (.invokevirtual 60, 3), (.aload_n 2, 1), (.aload_n 0, 1), (.iload_n 3, 1), (.iconst 1, 1), (.iadd, 1), (.iaload, 1), (.aload_n 0, 1), (.iload_n 3, 1), (.iconst 2, 1), (.iadd, 1), (.iaload, 1), (.invokevirtual 63, 3), (.if_icmp .eq 298, 3), (.iconst 0, 1), (.ireturn, 1), (.aload_n 1, 1), (.aload_n 0, 1), (.iload_n 3, 1), (.iconst 1, 1), (.iadd, 1), (.iaload, 1), (.aload_n 0, 1), (.iload_n 3, 1), (.iconst 2, 1), (.iadd, 1), (.iaload, 1), (.invokevirtual 64, 3), (.aload_n 2, 1), (.aload_n 0, 1), (.iload_n 3, 1), (.iconst 1, 1), (.iadd, 1), (.iaload, 1), (.aload_n 0, 1), (.iload_n 3, 1), (.iconst 2, 1), (.iadd, 1), (.iaload, 1), (.invokevirtual 67, 3), (.if_icmp .eq 265, 3), (.iconst 0, 1), (.ireturn, 1), (.aload_n 1, 1), (.aload_n 0, 1), (.iload_n 3, 1), (.iconst 1, 1), (.iadd, 1), (.iaload, 1), (.invokevirtual 68, 3), (.aload_n 2, 1), (.aload_n 0, 1), (.iload_n 3, 1), (.iconst 1, 1), (.iadd, 1), (.iaload, 1), (.invokevirtual 71, 3), (.if_icmp .eq 242, 3), (.iconst 0, 1), (.ireturn, 1), (.aload_n 1, 1), (.aload_n 0, 1), (.iload_n 3, 1), (.iconst 1, 1), (.iadd, 1), (.iaload, 1), (.aload_n 0, 1), (.iload_n 3, 1), (.iconst 2, 1), (.iadd, 1), (.iaload, 1), (.invokevirtual 72, 3), (.aload_n 2, 1), (.aload_n 0, 1), (.iload_n 3, 1), (.iconst 1, 1), (.iadd, 1), (.iaload, 1), (.aload_n 0, 1), (.iload_n 3, 1), (.iconst 2, 1), (.iadd, 1), (.iaload, 1), (.invokevirtual 75, 3), (.if_icmp .eq 209, 3), (.iconst 0, 1), (.ireturn, 1), (.aload_n 1, 1), (.aload_n 0, 1), (.iload_n 3, 1), (.iconst 1, 1), (.iadd, 1), (.iaload, 1), (.invokevirtual 76, 3), (.aload_n 2, 1), (.aload_n 0, 1), (.iload_n 3, 1), (.iconst 1, 1), (.iadd, 1), (.iaload, 1), (.invokevirtual 79, 3), (.if_icmp .eq 186, 3), (.iconst 0, 1), (.ireturn, 1), (.aload_n 1, 1), (.aload_n 0, 1), (.iload_n 3, 1), (.iconst 1, 1), (.iadd, 1), (.iaload, 1), (.aload_n 0, 1), (.iload_n 3, 1), (.iconst 2, 1), (.iadd, 1), (.iaload, 1), (.aload_n 0, 1), (.iload_n 3, 1), (.iconst 3, 1), (.iadd, 1), (.iaload, 1), (.invokevirtual 80, 3), (.aload_n 2, 1), (.aload_n 0, 1), (.iload_n 3, 1), (.iconst 1, 1), (.iadd, 1), (.iaload, 1), (.aload_n 0, 1), (.iload_n 3, 1), (.iconst 2, 1), (.iadd, 1), (.iaload, 1), (.aload_n 0, 1), (.iload_n 3, 1), (.iconst 3, 1), (.iadd, 1), (.iaload, 1), (.invokevirtual 83, 3), (.if_icmp .eq 143, 3), (.iconst 0, 1), (.ireturn, 1), (.aload_n 1, 1), (.aload_n 0, 1), (.iload_n 3, 1), (.iconst 1, 1), (.iadd, 1), (.iaload, 1), (.i2l, 1), (.bipush 32, 2), (.lshl, 1), (.aload_n 0, 1), (.iload_n 3, 1), (.iconst 2, 1), (.iadd, 1), (.iaload, 1), (.i2l, 1), (.ldc2_w 84, 3), (.land, 1), (.lor, 1), (.invokevirtual 86, 3), (.aload_n 2, 1), (.aload_n 0, 1), (.iload_n 3, 1), (.iconst 1, 1), (.iadd, 1), (.iaload, 1), (.i2l, 1), (.bipush 32, 2), (.lshl, 1), (.aload_n 0, 1), (.iload_n 3, 1), (.iconst 2, 1), (.iadd, 1), (.iaload, 1), (.i2l, 1), (.ldc2_w 84, 3), (.land, 1), (.lor, 1), (.invokevirtual 90, 3), (.if_icmp .eq 90, 3), (.iconst 0, 1), (.ireturn, 1), (.aload_n 1, 1), (.invokevirtual 91, 3), (.aload_n 2, 1), (.invokevirtual 95, 3), (.if_icmp .eq 77, 3), (.iconst 0, 1), (.ireturn, 1), (.aload_n 1, 1), (.invokevirtual 96, 3), (.aload_n 2, 1), (.invokevirtual 99, 3), (.if_icmp .eq 64, 3), (.iconst 0, 1), (.ireturn, 1), (.aload_n 1, 1), (.invokevirtual 100, 3), (.aload_n 2, 1), (.invokevirtual 103, 3), (.if_icmp .eq 51, 3), (.iconst 0, 1), (.ireturn, 1), (.aload_n 1, 1), (.aload_n 0, 1), (.iload_n 3, 1), (.iconst 1, 1), (.iadd, 1), (.iaload, 1), (.invokevirtual 104, 3), (.aload_n 2, 1), (.aload_n 0, 1), (.iload_n 3, 1), (.iconst 1, 1), (.iadd, 1), (.iaload, 1), (.invokevirtual 107, 3), (.if_icmp .eq 28, 3), (.iconst 0, 1), (.ireturn, 1), (.aload_n 1, 1), (.aload_n 0, 1), (.iload_n 3, 1), (.iconst 1, 1), (.iadd, 1), (.iaload, 1), (.invokevirtual 108, 3), (.aload_n 2, 1), (.aload_n 0, 1), (.iload_n 3, 1), (.iconst 1, 1), (.iadd, 1), (.iaload, 1), (.invokevirtual 111, 3), (.if_icmp .eq 5, 3), (.iconst 0, 1), (.ireturn, 1), (.iinc 3 4, 3), (.goto (-814), 3), (.iconst 1, 1), (.ireturn, 1)]
abbrev fd_p191 : List Nat := [16, 17, 18, 19, 20, 21, 22, 23, 26, 27, 28, 29, 31, 32, 140, 141, 142, 143, 144, 145, 146, 147, 148, 149, 150, 151, 154, 155, 156, 157, 158, 159, 160, 161, 162, 163, 164, 165, 168, 171, 172, 173, 174, 175, 176, 177, 178, 179, 180, 181, 182, 183, 184, 185, 186, 187, 188, 189, 192, 193, 194, 195, 196, 197, 198, 199, 200, 201, 202, 203, 204, 205, 206, 207, 208, 211, 214, 215, 216, 217, 218, 219, 220, 221, 222, 223, 224, 225, 226, 227, 230, 231, 232, 233, 234, 235, 236, 237, 238, 239, 240, 241, 244, 247, 248, 249, 250, 251, 252, 253, 254, 255, 258, 259, 260, 261, 262, 263, 264, 267, 270, 271, 272, 273, 274, 275, 276, 277, 278, 279, 280, 281, 282, 283, 286, 287, 288, 289, 290, 291, 292, 293, 294, 295, 296, 297, 300, 303, 304, 305, 306, 307, 308, 309, 310, 311, 312, 313, 314, 315, 316, 319, 320, 321, 322, 323, 324, 325, 326, 327, 328, 329, 330, 333, 336, 337, 338, 339, 340, 341, 342, 343, 344, 345, 346, 347, 348, 349, 352, 353, 354, 355, 356, 357, 358, 359, 360, 361, 362, 363, 366, 369, 370, 371, 372, 373, 374, 375, 376, 377, 380, 381, 382, 383, 384, 385, 386, 389, 392, 393, 394, 395, 396, 397, 398, 399, 400, 401, 402, 403, 404, 405, 406, 407, 408, 409, 410, 413, 414, 415, 416, 417, 418, 419, 420, 421, 422, 423, 424, 425, 426, 427, 428, 429, 432, 435, 436, 437, 438, 439, 440, 441, 442, 443, 444, 445, 446, 447, 448, 451, 452, 453, 454, 455, 456, 457, 458, 459, 460, 461, 462, 465, 468, 469, 470, 471, 472, 473, 474, 475, 476, 477, 478, 479, 480, 481, 484, 485, 486, 487, 488, 489, 490, 491, 492, 493, 494, 495, 498, 501, 502, 503, 504, 505, 506, 507, 508, 509, 510, 511, 512, 513, 514, 517, 518, 519, 520, 521, 522, 523, 524, 525, 526, 527, 528, 531, 534, 535, 536, 537, 538, 539, 540, 541, 542, 543, 544, 545, 546, 547, 550, 551, 552, 553, 554, 555, 556, 557, 558, 559, 560, 561, 564, 567, 568, 569, 570, 571, 572, 573, 574, 575, 578, 579, 580, 581, 582, 583, 584, 587, 590, 591, 592, 593, 594, 595, 596, 597, 598, 599, 600, 601, 602, 603, 606, 607, 608, 609, 610, 611, 612, 613, 614, 615, 616, 617, 620, 623, 624, 625, 626, 627, 628, 629, 630, 631, 634, 635, 636, 637, 638, 639, 640, 643, 646, 647, 648, 649, 650, 651, 652, 653, 654, 655, 656, 657, 658, 659, 660, 661, 662, 663, 664, 667, 668, 669, 670, 671, 672, 673, 674, 675, 676, 677, 678, 679, 680, 681, 682, 683, 686, 689, 690, 691, 692, 693, 694, 695, 696, 697, 698, 700, 701, 702, 703, 704, 705, 706, 707, 710, 711, 712, 715, 716, 717, 718, 719, 720, 721, 722, 724, 725, 726, 727, 728, 729, 730, 731, 734, 735, 736, 739, 742, 743, 744, 745, 748, 749, 752, 755, 756, 757, 758, 761, 762, 765, 768, 769, 770, 771, 774, 775, 778, 781, 782, 783, 784, 785, 786, 787, 788, 789, 792, 793, 794, 795, 796, 797, 798, 801, 804, 805, 806, 807, 808, 809, 810, 811, 812, 815, 816, 817, 818, 819, 820, 821, 824, 827, 828, 829, 832, 835, 836, 837]
def fd_ys : List MethodName := [⟨"FoldedStrips", "draw", "(II)I"⟩, ⟨"FoldedStrips", "isPanel", "(I)Z"⟩, ⟨"FoldedStrips", "isHand", "(I)Z"⟩, ⟨"FoldedStrips", "placeOf", "(II)I"⟩, ⟨"FoldedStrips", "isEnd", "(I)Z"⟩, ⟨"FoldedStrips", "upperEdge", "(I)I"⟩, ⟨"FoldedStrips", "isPlace", "(I)Z"⟩, ⟨"FoldedStrips", "lowerEdge", "(I)I"⟩, ⟨"FoldedStrips", "join", "(III)I"⟩, ⟨"FoldedStrips", "rub", "(II)I"⟩, ⟨"FoldedStrips", "clear", "(I)I"⟩, ⟨"FoldedStrips", "slide", "(II)I"⟩, ⟨"FoldedStrips", "turn", "(II)I"⟩, ⟨"FoldedStrips", "isTurn", "(I)Z"⟩, ⟨"FoldedStrips", "exchange", "(II)I"⟩, ⟨"FoldedStrips", "takeUp", "(I)I"⟩, ⟨"FoldedStrips", "end", "(III)I"⟩, ⟨"FoldedStrips", "neighbourOf", "(I)I"⟩, ⟨"FoldedStrips", "panelOf", "(I)I"⟩, ⟨"FoldedStrips", "panel", "(II)I"⟩, ⟨"FoldedStrips", "fold", "(II)I"⟩, ⟨"FoldedStrips", "isFold", "(I)Z"⟩, ⟨"FoldedStrips", "hand", "(II)I"⟩, ⟨"FoldedStrips", "line", "(II)I"⟩, ⟨"FoldedStrips", "count", "(I)I"⟩, ⟨"FoldedStrips", "countOfLines", "(I)I"⟩, ⟨"FoldedStrips", "bestSlide", "(II)I"⟩, ⟨"FoldedStrips", "looseEndsIfSlid", "(II)I"⟩, ⟨"FoldedStrips", "bestExchange", "(I)I"⟩, ⟨"FoldedStrips", "looseEndsIfExchanged", "(II)I"⟩, ⟨"FoldedStrips", "ifTurned", "(III)I"⟩, ⟨"FoldedStrips", "put", "(J)I"⟩, ⟨"FoldedStrips", "wipe", "()I"⟩, ⟨"FoldedStrips", "fault", "()I"⟩, ⟨"FoldedStrips", "undo", "()I"⟩, ⟨"FoldedStrips", "save", "(I)I"⟩, ⟨"FoldedStrips", "isSlot", "(I)Z"⟩, ⟨"FoldedStrips", "restore", "(I)I"⟩, ⟨"FoldedStrips$History", "remember", "(LFoldedStrips$Strip;)V"⟩, ⟨"FoldedStrips$History", "size", "()I"⟩, ⟨"FoldedStrips$History", "goBack", "(LFoldedStrips$Strip;)V"⟩, ⟨"FoldedStrips$Lines", "trace", "(LFoldedStrips$Strip;)V"⟩, ⟨"FoldedStrips$Lines", "addLine", "(LFoldedStrips$Strip;I)V"⟩, ⟨"FoldedStrips$Lines", "isIndex", "(I)Z"⟩, ⟨"FoldedStrips$Lines", "follow", "(LFoldedStrips$Strip;II)I"⟩, ⟨"FoldedStrips$Lines", "take", "(LFoldedStrips$Strip;III)V"⟩, ⟨"FoldedStrips$Lines", "lineAt", "(I)I"⟩, ⟨"FoldedStrips$Lines", "linesIn", "(I)I"⟩, ⟨"FoldedStrips$Lines", "panelSetOf", "(I)I"⟩, ⟨"FoldedStrips$Lines", "size", "()I"⟩, ⟨"FoldedStrips$Lines", "strokesOf", "(I)I"⟩, ⟨"FoldedStrips$Lines", "isLoop", "(I)Z"⟩, ⟨"FoldedStrips$Lines", "handSetOf", "(I)I"⟩, ⟨"FoldedStrips$Lines", "lesserEndOf", "(I)I"⟩, ⟨"FoldedStrips$Lines", "greaterEndOf", "(I)I"⟩, ⟨"FoldedStrips$Lines", "loops", "()I"⟩, ⟨"FoldedStrips$Lines", "longest", "()I"⟩, ⟨"FoldedStrips$Lines", "fromTopToBottom", "()I"⟩, ⟨"FoldedStrips$Pad", "firstFault", "()I"⟩, ⟨"FoldedStrips$Pad", "canStand", "(II)Z"⟩, ⟨"FoldedStrips$Pad", "columnAt", "(I)I"⟩, ⟨"FoldedStrips$Pad", "charAt", "(I)C"⟩, ⟨"FoldedStrips$Pad", "canBegin", "(II)Z"⟩, ⟨"FoldedStrips$Pad", "canGoOn", "(ICI)Z"⟩, ⟨"FoldedStrips$Pad", "endFrom", "(IC)I"⟩, ⟨"FoldedStrips$Pad", "endsTo", "(IC)I"⟩, ⟨"FoldedStrips$Pad", "canClose", "(II)Z"⟩, ⟨"FoldedStrips$Pad", "secondEnd", "(I)I"⟩, ⟨"FoldedStrips$Pad", "firstEnd", "(I)I"⟩, ⟨"FoldedStrips$Pad", "drawOnto", "(LFoldedStrips$Strip;I)V"⟩, ⟨"FoldedStrips$Pad", "makeEmpty", "()V"⟩, ⟨"FoldedStrips$Pad", "length", "()I"⟩, ⟨"FoldedStrips$Pad", "charactersIn", "(J)I"⟩, ⟨"FoldedStrips$Pad", "append", "(JI)V"⟩, ⟨"FoldedStrips$Slots", "keep", "(ILFoldedStrips$Strip;)V"⟩, ⟨"FoldedStrips$Slots", "isKept", "(I)Z"⟩, ⟨"FoldedStrips$Slots", "fetch", "(ILFoldedStrips$Strip;)V"⟩, ⟨"FoldedStrips$Strip", "copyFrom", "(LFoldedStrips$Strip;)V"⟩, ⟨"FoldedStrips$Strip", "erase", "(I)V"⟩, ⟨"FoldedStrips$Strip", "giveTo", "(II)V"⟩, ⟨"FoldedStrips$Strip", "link", "(III)V"⟩, ⟨"FoldedStrips$Strip", "strokesIn", "(I)I"⟩, ⟨"FoldedStrips$Strip", "edgeSet", "(I)I"⟩, ⟨"FoldedStrips$Strip", "hasStroke", "(I)Z"⟩, ⟨"FoldedStrips$Strip", "otherEnd", "(I)I"⟩, ⟨"FoldedStrips$Strip", "unlink", "(III)V"⟩, ⟨"FoldedStrips$Strip", "canShift", "(II)Z"⟩, ⟨"FoldedStrips$Strip", "shift", "(II)V"⟩, ⟨"FoldedStrips$Strip", "liftOff", "(I)V"⟩, ⟨"FoldedStrips$Strip", "looseEnds", "()I"⟩, ⟨"FoldedStrips$Strip", "marksAt", "(I)I"⟩, ⟨"FoldedStrips$Strip", "startsAt", "(I)I"⟩, ⟨"FoldedStrips$Strip", "flip", "(II)V"⟩, ⟨"FoldedStrips$Strip", "turnedEnd", "(II)I"⟩, ⟨"FoldedStrips$Strip", "swap", "(II)V"⟩, ⟨"FoldedStrips$Strip", "continueMarks", "(I)I"⟩, ⟨"FoldedStrips$Strip", "missedMarksAt", "(I)I"⟩, ⟨"FoldedStrips$Strip", "howEndIs", "(I)I"⟩, ⟨"FoldedStrips$Strip", "otherPlace", "(I)I"⟩, ⟨"FoldedStrips$Strip", "handOf", "(I)I"⟩, ⟨"FoldedStrips$Strip", "crossingsOf", "(I)I"⟩, ⟨"FoldedStrips$Strip", "isBetween", "(III)Z"⟩, ⟨"FoldedStrips$Strip", "aroundEdge", "(I)I"⟩, ⟨"FoldedStrips$Strip", "crossingPairsIn", "(I)I"⟩, ⟨"FoldedStrips$Strip", "looseEndsIn", "(I)I"⟩, ⟨"FoldedStrips$Strip", "strokesDown", "(I)I"⟩, ⟨"FoldedStrips$Strip", "unmarkedStartsAt", "(I)I"⟩, ⟨"FoldedStrips$Strip", "panelsOf", "(I)I"⟩, ⟨"FoldedStrips$Strip", "strokesOf", "(I)I"⟩, ⟨"FoldedStrips$Strip", "missedMarksOf", "(I)I"⟩, ⟨"FoldedStrips$Strip", "unmarkedStartsOf", "(I)I"⟩, ⟨"FoldedStrips$Strip", "strokes", "()I"⟩, ⟨"FoldedStrips$Strip", "freeEnds", "()I"⟩, ⟨"FoldedStrips$Strip", "crossingPairs", "()I"⟩, ⟨"FoldedStripsModel", "join", "(III)I"⟩, ⟨"FoldedStripsModel", "isEnd", "(II)Z"⟩, ⟨"FoldedStripsModel", "isPanel", "(I)Z"⟩, ⟨"FoldedStripsModel", "in", "(III)Z"⟩, ⟨"FoldedStripsModel", "has", "(I)Z"⟩, ⟨"FoldedStripsModel", "record", "()V"⟩, ⟨"FoldedStripsModel", "joins", "(III)V"⟩, ⟨"FoldedStripsModel", "strokesOf", "(I)I"⟩, ⟨"FoldedStripsModel", "rub", "(II)I"⟩, ⟨"FoldedStripsModel", "clear", "(I)I"⟩, ⟨"FoldedStripsModel", "rubsAll", "(I)V"⟩, ⟨"FoldedStripsModel", "slide", "(II)I"⟩, ⟨"FoldedStripsModel", "canSlide", "(II)Z"⟩, ⟨"FoldedStripsModel", "lays", "(IIZZ)V"⟩, ⟨"FoldedStripsModel", "moved", "(IIZZ)I"⟩, ⟨"FoldedStripsModel", "loose", "()I"⟩, ⟨"FoldedStripsModel", "ends", "(III)I"⟩, ⟨"FoldedStripsModel", "how", "(I)I"⟩, ⟨"FoldedStripsModel", "neighbour", "(I)I"⟩, ⟨"FoldedStripsModel", "turn", "(II)I"⟩, ⟨"FoldedStripsModel", "exchange", "(II)I"⟩, ⟨"FoldedStripsModel", "exchanges", "(II)V"⟩, ⟨"FoldedStripsModel", "takeUp", "(I)I"⟩, ⟨"FoldedStripsModel", "draw", "(II)I"⟩, ⟨"FoldedStripsModel", "faultOf", "()I"⟩, ⟨"FoldedStripsModel", "readsStroke", "()Z"⟩, ⟨"FoldedStripsModel", "isSign", "(CC)Z"⟩, ⟨"FoldedStripsModel", "canDown", "(I)Z"⟩, ⟨"FoldedStripsModel", "isUnused", "(I)Z"⟩, ⟨"FoldedStripsModel", "isAnyUnused", "(II)Z"⟩, ⟨"FoldedStripsModel", "canAbove", "(I)Z"⟩, ⟨"FoldedStripsModel", "canBelow", "(I)Z"⟩, ⟨"FoldedStripsModel", "accepts", "(CZ)Z"⟩, ⟨"FoldedStripsModel", "isMore", "()Z"⟩, ⟨"FoldedStripsModel", "end", "(III)I"⟩, ⟨"FoldedStripsModel", "lay", "()V"⟩, ⟨"FoldedStripsModel", "marks", "(I)V"⟩, ⟨"FoldedStripsModel", "other", "(I)I"⟩, ⟨"FoldedStripsModel", "follows", "(II)I"⟩, ⟨"FoldedStripsModel", "crossing", "(I)I"⟩, ⟨"FoldedStripsModel", "isBetween", "(III)Z"⟩, ⟨"FoldedStripsModel", "around", "(I)I"⟩, ⟨"FoldedStripsModel", "panel", "(II)I"⟩, ⟨"FoldedStripsModel", "columns", "(I)I"⟩, ⟨"FoldedStripsModel", "pairs", "(I)I"⟩, ⟨"FoldedStripsModel", "linesIn", "(I)I"⟩, ⟨"FoldedStripsModel", "down", "(I)I"⟩, ⟨"FoldedStripsModel", "fold", "(II)I"⟩, ⟨"FoldedStripsModel", "faults", "(II)I"⟩, ⟨"FoldedStripsModel", "hand", "(II)I"⟩, ⟨"FoldedStripsModel", "ofHand", "(II)I"⟩, ⟨"FoldedStripsModel", "bits", "(I)I"⟩, ⟨"FoldedStripsModel", "line", "(II)I"⟩, ⟨"FoldedStripsModel", "handsOf", "(I)I"⟩, ⟨"FoldedStripsModel", "count", "(I)I"⟩, ⟨"FoldedStripsModel", "ofPanels", "(I)I"⟩, ⟨"FoldedStripsModel", "ofLines", "(I)I"⟩, ⟨"FoldedStripsModel", "bestSlide", "(II)I"⟩, ⟨"FoldedStripsModel", "keepTrial", "()V"⟩, ⟨"FoldedStripsModel", "putBack", "()V"⟩, ⟨"FoldedStripsModel", "bestExchange", "(I)I"⟩, ⟨"FoldedStripsModel", "ifTurned", "(III)I"⟩, ⟨"FoldedStripsModel", "put", "(J)I"⟩, ⟨"FoldedStripsModel", "wipe", "()I"⟩, ⟨"FoldedStripsModel", "fault", "()I"⟩, ⟨"FoldedStripsModel", "undo", "()I"⟩, ⟨"FoldedStripsModel", "save", "(I)I"⟩, ⟨"FoldedStripsModel", "restore", "(I)I"⟩, ⟨"java/lang/Integer", "bitCount", "(I)I"⟩, ⟨"java/util/Arrays", "fill", "([II)V"⟩, ⟨"FoldedStrips", "<init>", "()V"⟩, ⟨"FoldedStrips$History", "<init>", "()V"⟩, ⟨"FoldedStrips$Lines", "<init>", "()V"⟩, ⟨"FoldedStrips$Pad", "<init>", "()V"⟩, ⟨"FoldedStrips$Slots", "<init>", "()V"⟩, ⟨"FoldedStrips$Strip", "<init>", "()V"⟩, ⟨"FoldedStripsModel", "<init>", "()V"⟩, ⟨"FoldedStripsLaw", "law", "([I)Z"⟩]
def fd_y (j : Nat) : MethodName := fd_ys.getD j ⟨"", "", ""⟩
def fd_bs : List ByteArray := [prog_1_method_2_code, prog_1_method_28_code, prog_1_method_32_code, prog_1_method_35_code, prog_1_method_29_code, prog_1_method_37_code, prog_1_method_30_code, prog_1_method_38_code, prog_1_method_3_code, prog_1_method_4_code, prog_1_method_5_code, prog_1_method_6_code, prog_1_method_7_code, prog_1_method_33_code, prog_1_method_8_code, prog_1_method_9_code, prog_1_method_10_code, prog_1_method_39_code, prog_1_method_36_code, prog_1_method_11_code, prog_1_method_12_code, prog_1_method_31_code, prog_1_method_13_code, prog_1_method_14_code, prog_1_method_15_code, prog_1_method_16_code, prog_1_method_17_code, prog_1_method_18_code, prog_1_method_19_code, prog_1_method_20_code, prog_1_method_21_code, prog_1_method_22_code, prog_1_method_23_code, prog_1_method_24_code, prog_1_method_25_code, prog_1_method_26_code, prog_1_method_34_code, prog_1_method_27_code, prog_2_method_3_code, prog_2_method_2_code, prog_2_method_4_code, prog_3_method_2_code, prog_3_method_3_code, prog_3_method_6_code, prog_3_method_4_code, prog_3_method_5_code, prog_3_method_8_code, prog_3_method_15_code, prog_3_method_11_code, prog_3_method_7_code, prog_3_method_9_code, prog_3_method_10_code, prog_3_method_12_code, prog_3_method_13_code, prog_3_method_14_code, prog_3_method_16_code, prog_3_method_17_code, prog_3_method_18_code, prog_4_method_8_code, prog_4_method_9_code, prog_4_method_7_code, prog_4_method_6_code, prog_4_method_10_code, prog_4_method_11_code, prog_4_method_13_code, prog_4_method_14_code, prog_4_method_12_code, prog_4_method_16_code, prog_4_method_15_code, prog_4_method_17_code, prog_4_method_3_code, prog_4_method_2_code, prog_4_method_4_code, prog_4_method_5_code, prog_5_method_3_code, prog_5_method_2_code, prog_5_method_4_code, prog_6_method_2_code, prog_6_method_10_code, prog_6_method_18_code, prog_6_method_8_code, prog_6_method_28_code, prog_6_method_7_code, prog_6_method_4_code, prog_6_method_3_code, prog_6_method_9_code, prog_6_method_11_code, prog_6_method_12_code, prog_6_method_14_code, prog_6_method_31_code, prog_6_method_24_code, prog_6_method_25_code, prog_6_method_13_code, prog_6_method_15_code, prog_6_method_16_code, prog_6_method_17_code, prog_6_method_26_code, prog_6_method_6_code, prog_6_method_5_code, prog_6_method_19_code, prog_6_method_36_code, prog_6_method_35_code, prog_6_method_34_code, prog_6_method_37_code, prog_6_method_32_code, prog_6_method_30_code, prog_6_method_27_code, prog_6_method_20_code, prog_6_method_21_code, prog_6_method_22_code, prog_6_method_23_code, prog_6_method_29_code, prog_6_method_33_code, prog_6_method_38_code, prog_8_method_25_code, prog_8_method_4_code, prog_8_method_3_code, prog_8_method_2_code, prog_8_method_8_code, prog_8_method_5_code, prog_8_method_15_code, prog_8_method_14_code, prog_8_method_26_code, prog_8_method_27_code, prog_8_method_16_code, prog_8_method_31_code, prog_8_method_28_code, prog_8_method_29_code, prog_8_method_30_code, prog_8_method_13_code, prog_8_method_12_code, prog_8_method_11_code, prog_8_method_10_code, prog_8_method_32_code, prog_8_method_34_code, prog_8_method_33_code, prog_8_method_35_code, prog_8_method_46_code, prog_8_method_45_code, prog_8_method_44_code, prog_8_method_36_code, prog_8_method_40_code, prog_8_method_38_code, prog_8_method_39_code, prog_8_method_41_code, prog_8_method_42_code, prog_8_method_37_code, prog_8_method_43_code, prog_8_method_47_code, prog_8_method_23_code, prog_8_method_22_code, prog_8_method_9_code, prog_8_method_21_code, prog_8_method_19_code, prog_8_method_18_code, prog_8_method_17_code, prog_8_method_51_code, prog_8_method_48_code, prog_8_method_20_code, prog_8_method_49_code, prog_8_method_50_code, prog_8_method_54_code, prog_8_method_53_code, prog_8_method_56_code, prog_8_method_55_code, prog_8_method_52_code, prog_8_method_57_code, prog_8_method_24_code, prog_8_method_60_code, prog_8_method_58_code, prog_8_method_59_code, prog_8_method_61_code, prog_8_method_6_code, prog_8_method_7_code, prog_8_method_62_code, prog_8_method_63_code, prog_8_method_64_code, prog_8_method_65_code, prog_8_method_66_code, prog_8_method_67_code, prog_8_method_68_code, prog_8_method_69_code, prog_9_method_49_code, prog_12_method_103_code, prog_1_method_1_code, prog_2_method_1_code, prog_3_method_1_code, prog_4_method_1_code, prog_5_method_1_code, prog_6_method_1_code, prog_8_method_1_code, code]
def fd_b (j : Nat) : ByteArray := fd_bs.getD j ⟨#[]⟩
noncomputable def fd_Cs : List (List Instr) := [fd_c0, fd_c1, fd_c2, fd_c3, fd_c4, fd_c5, fd_c6, fd_c7, fd_c8, fd_c9, fd_c10, fd_c11, fd_c12, fd_c13, fd_c14, fd_c15, fd_c16, fd_c17, fd_c18, fd_c19, fd_c20, fd_c21, fd_c22, fd_c23, fd_c24, fd_c25, fd_c26, fd_c27, fd_c28, fd_c29, fd_c30, fd_c31, fd_c32, fd_c33, fd_c34, fd_c35, fd_c36, fd_c37, fd_c38, fd_c39, fd_c40, fd_c41, fd_c42, fd_c43, fd_c44, fd_c45, fd_c46, fd_c47, fd_c48, fd_c49, fd_c50, fd_c51, fd_c52, fd_c53, fd_c54, fd_c55, fd_c56, fd_c57, fd_c58, fd_c59, fd_c60, fd_c61, fd_c62, fd_c63, fd_c64, fd_c65, fd_c66, fd_c67, fd_c68, fd_c69, fd_c70, fd_c71, fd_c72, fd_c73, fd_c74, fd_c75, fd_c76, fd_c77, fd_c78, fd_c79, fd_c80, fd_c81, fd_c82, fd_c83, fd_c84, fd_c85, fd_c86, fd_c87, fd_c88, fd_c89, fd_c90, fd_c91, fd_c92, fd_c93, fd_c94, fd_c95, fd_c96, fd_c97, fd_c98, fd_c99, fd_c100, fd_c101, fd_c102, fd_c103, fd_c104, fd_c105, fd_c106, fd_c107, fd_c108, fd_c109, fd_c110, fd_c111, fd_c112, fd_c113, fd_c114, fd_c115, fd_c116, fd_c117, fd_c118, fd_c119, fd_c120, fd_c121, fd_c122, fd_c123, fd_c124, fd_c125, fd_c126, fd_c127, fd_c128, fd_c129, fd_c130, fd_c131, fd_c132, fd_c133, fd_c134, fd_c135, fd_c136, fd_c137, fd_c138, fd_c139, fd_c140, fd_c141, fd_c142, fd_c143, fd_c144, fd_c145, fd_c146, fd_c147, fd_c148, fd_c149, fd_c150, fd_c151, fd_c152, fd_c153, fd_c154, fd_c155, fd_c156, fd_c157, fd_c158, fd_c159, fd_c160, fd_c161, fd_c162, fd_c163, fd_c164, fd_c165, fd_c166, fd_c167, fd_c168, fd_c169, fd_c170, fd_c171, fd_c172, fd_c173, fd_c174, fd_c175, fd_c176, fd_c177, fd_c178, fd_c179, fd_c180, fd_c181, fd_c182, fd_c183, fd_c184, fd_c185, fd_c186, fd_c187, fd_c188, fd_c189, fd_c190, fd_c191]
noncomputable def fd_C (j : Nat) : List Instr := fd_Cs.getD j []
noncomputable def fd_PCs : List (List Nat) := [fd_p0, fd_p1, fd_p2, fd_p3, fd_p4, fd_p5, fd_p6, fd_p7, fd_p8, fd_p9, fd_p10, fd_p11, fd_p12, fd_p13, fd_p14, fd_p15, fd_p16, fd_p17, fd_p18, fd_p19, fd_p20, fd_p21, fd_p22, fd_p23, fd_p24, fd_p25, fd_p26, fd_p27, fd_p28, fd_p29, fd_p30, fd_p31, fd_p32, fd_p33, fd_p34, fd_p35, fd_p36, fd_p37, fd_p38, fd_p39, fd_p40, fd_p41, fd_p42, fd_p43, fd_p44, fd_p45, fd_p46, fd_p47, fd_p48, fd_p49, fd_p50, fd_p51, fd_p52, fd_p53, fd_p54, fd_p55, fd_p56, fd_p57, fd_p58, fd_p59, fd_p60, fd_p61, fd_p62, fd_p63, fd_p64, fd_p65, fd_p66, fd_p67, fd_p68, fd_p69, fd_p70, fd_p71, fd_p72, fd_p73, fd_p74, fd_p75, fd_p76, fd_p77, fd_p78, fd_p79, fd_p80, fd_p81, fd_p82, fd_p83, fd_p84, fd_p85, fd_p86, fd_p87, fd_p88, fd_p89, fd_p90, fd_p91, fd_p92, fd_p93, fd_p94, fd_p95, fd_p96, fd_p97, fd_p98, fd_p99, fd_p100, fd_p101, fd_p102, fd_p103, fd_p104, fd_p105, fd_p106, fd_p107, fd_p108, fd_p109, fd_p110, fd_p111, fd_p112, fd_p113, fd_p114, fd_p115, fd_p116, fd_p117, fd_p118, fd_p119, fd_p120, fd_p121, fd_p122, fd_p123, fd_p124, fd_p125, fd_p126, fd_p127, fd_p128, fd_p129, fd_p130, fd_p131, fd_p132, fd_p133, fd_p134, fd_p135, fd_p136, fd_p137, fd_p138, fd_p139, fd_p140, fd_p141, fd_p142, fd_p143, fd_p144, fd_p145, fd_p146, fd_p147, fd_p148, fd_p149, fd_p150, fd_p151, fd_p152, fd_p153, fd_p154, fd_p155, fd_p156, fd_p157, fd_p158, fd_p159, fd_p160, fd_p161, fd_p162, fd_p163, fd_p164, fd_p165, fd_p166, fd_p167, fd_p168, fd_p169, fd_p170, fd_p171, fd_p172, fd_p173, fd_p174, fd_p175, fd_p176, fd_p177, fd_p178, fd_p179, fd_p180, fd_p181, fd_p182, fd_p183, fd_p184, fd_p185, fd_p186, fd_p187, fd_p188, fd_p189, fd_p190, fd_p191]
noncomputable def fd_PC (j : Nat) : List Nat := fd_PCs.getD j []
def fd_Gs : List (Nat × Nat × Nat × Option Nat) := [(3, 3, 1, some 0), (1, 1, 2, none), (1, 1, 2, none), (2, 2, 1, none), (1, 1, 2, none), (1, 1, 1, none), (1, 1, 2, none), (1, 1, 1, none), (4, 4, 1, some 0), (3, 4, 1, some 0), (2, 3, 1, some 0), (3, 3, 1, some 0), (3, 3, 1, some 0), (1, 1, 2, none), (3, 3, 1, some 0), (2, 2, 1, some 0), (4, 5, 1, some 0), (1, 3, 1, none), (1, 1, 1, none), (3, 3, 1, some 0), (3, 3, 1, some 0), (1, 1, 2, none), (3, 3, 1, some 0), (3, 3, 1, some 0), (2, 2, 1, some 0), (2, 2, 1, some 0), (3, 9, 1, some 0), (3, 3, 1, some 0), (2, 7, 1, some 0), (3, 3, 1, some 0), (4, 4, 1, some 0), (2, 4, 1, some 0), (1, 2, 1, some 0), (1, 1, 1, some 0), (1, 1, 1, some 0), (2, 2, 1, some 0), (1, 1, 2, none), (2, 2, 1, some 0), (2, 2, 0, some 1), (1, 1, 1, some 1), (2, 3, 0, some 1), (2, 3, 0, some 2), (3, 6, 0, some 2), (1, 1, 2, none), (4, 7, 1, some 2), (5, 5, 0, some 2), (2, 2, 1, some 2), (2, 4, 1, some 2), (2, 2, 1, some 2), (1, 1, 1, some 2), (2, 2, 1, some 2), (2, 2, 2, some 2), (2, 2, 1, some 2), (2, 2, 1, some 2), (2, 2, 1, some 2), (1, 3, 1, some 2), (1, 3, 1, some 2), (1, 4, 1, some 2), (1, 3, 1, some 3), (3, 3, 2, some 3), (2, 3, 1, some 3), (2, 2, 3, some 3), (2, 2, 2, none), (3, 3, 2, none), (2, 2, 1, none), (2, 3, 1, none), (3, 4, 2, some 3), (2, 3, 1, some 3), (2, 2, 1, some 3), (3, 4, 0, some 3), (1, 1, 0, some 3), (1, 1, 1, some 3), (1, 7, 1, none), (3, 7, 0, some 3), (3, 3, 0, some 4), (2, 2, 2, some 4), (3, 3, 0, some 4), (2, 2, 0, some 5), (2, 3, 0, some 5), (3, 3, 0, some 5), (4, 4, 0, some 5), (2, 3, 1, some 5), (2, 4, 1, some 5), (2, 2, 2, some 5), (2, 2, 1, some 5), (4, 4, 0, some 5), (3, 6, 2, some 5), (3, 4, 0, some 5), (2, 3, 0, some 5), (1, 3, 1, some 5), (2, 2, 1, some 5), (2, 2, 1, some 5), (3, 4, 0, some 5), (2, 4, 1, none), (3, 5, 0, some 5), (2, 4, 1, some 5), (2, 2, 1, some 5), (2, 3, 1, some 5), (2, 3, 1, some 5), (2, 2, 1, some 5), (2, 9, 1, some 5), (3, 6, 2, none), (1, 1, 1, none), (2, 4, 1, some 5), (2, 4, 1, some 5), (2, 4, 1, some 5), (2, 2, 1, some 5), (2, 4, 1, some 5), (2, 4, 1, some 5), (2, 4, 1, some 5), (2, 4, 1, some 5), (1, 3, 1, some 5), (1, 1, 1, some 5), (1, 3, 1, some 5), (4, 4, 1, some 6), (2, 2, 2, none), (1, 1, 2, none), (3, 3, 2, none), (2, 2, 2, some 6), (1, 2, 0, some 6), (4, 4, 0, some 6), (2, 4, 1, some 6), (3, 4, 1, some 6), (2, 3, 1, some 6), (2, 3, 0, some 6), (3, 3, 1, some 6), (3, 5, 2, some 6), (5, 7, 0, some 6), (4, 6, 1, none), (1, 1, 1, some 6), (4, 6, 1, some 6), (2, 3, 1, some 6), (1, 2, 1, none), (3, 3, 1, some 6), (3, 3, 1, some 6), (3, 5, 0, some 6), (2, 5, 1, some 6), (3, 4, 1, some 6), (1, 2, 1, some 6), (1, 7, 2, some 6), (3, 3, 2, some 6), (2, 2, 2, some 6), (2, 2, 2, some 6), (3, 5, 2, some 6), (2, 2, 2, some 6), (2, 2, 2, some 6), (3, 4, 2, some 6), (1, 3, 2, some 6), (4, 5, 1, some 6), (1, 4, 0, some 6), (2, 2, 0, some 6), (2, 2, 1, some 6), (3, 5, 1, some 6), (2, 9, 1, some 6), (3, 7, 2, none), (1, 1, 1, none), (3, 3, 1, some 6), (2, 4, 1, some 6), (2, 5, 1, some 6), (2, 4, 1, some 6), (2, 4, 1, some 6), (3, 4, 1, some 6), (3, 5, 1, some 6), (3, 3, 1, some 6), (3, 8, 1, some 6), (1, 3, 1, none), (3, 3, 1, some 6), (2, 4, 1, some 6), (2, 2, 1, some 6), (2, 5, 1, some 6), (2, 6, 1, some 6), (3, 8, 1, some 6), (1, 2, 0, some 6), (1, 2, 0, some 6), (2, 6, 1, some 6), (4, 5, 1, some 6), (2, 8, 1, some 6), (1, 2, 1, some 6), (1, 2, 1, some 6), (1, 2, 1, some 6), (2, 3, 1, some 6), (2, 3, 1, some 6), (1, 1, 1, none), (2, 4, 0, none), (1, 1, 0, some 0), (1, 2, 0, some 1), (1, 1, 0, some 2), (1, 1, 0, some 3), (1, 2, 0, some 4), (1, 2, 0, some 5), (1, 2, 0, some 6), (1, 4, 2, none)]
def fd_G (j : Nat) : Nat × Nat × Nat × Option Nat := fd_Gs.getD j (0, 0, 0, none)
def fd_ROs : List (Nat × Nat) := [(6, 132), (0, 0), (0, 0), (0, 0), (0, 0), (0, 0), (0, 0), (0, 0), (4, 86), (3, 68), (4, 86), (5, 107), (5, 107), (0, 0), (5, 107), (6, 129), (6, 138), (1, 20), (0, 0), (6, 138), (5, 106), (0, 0), (6, 129), (6, 138), (6, 138), (3, 64), (6, 129), (5, 107), (6, 129), (5, 107), (6, 138), (1, 26), (1, 20), (6, 132), (3, 69), (5, 108), (0, 0), (5, 108), (2, 47), (0, 0), (2, 47), (5, 116), (4, 91), (0, 0), (3, 65), (2, 41), (1, 20), (2, 41), (1, 20), (0, 0), (1, 20), (1, 20), (1, 20), (1, 20), (1, 20), (2, 41), (2, 41), (2, 41), (5, 110), (4, 88), (1, 21), (0, 0), (2, 44), (1, 22), (0, 0), (0, 0), (3, 65), (2, 43), (2, 43), (3, 65), (0, 0), (0, 0), (0, 0), (0, 0), (2, 47), (1, 20), (2, 47), (1, 26), (1, 21), (1, 20), (1, 21), (3, 64), (2, 41), (1, 20), (1, 20), (1, 21), (3, 64), (3, 65), (2, 43), (4, 85), (3, 64), (3, 64), (3, 65), (0, 0), (1, 21), (5, 106), (4, 85), (2, 42), (2, 41), (1, 20), (2, 46), (1, 21), (0, 0), (3, 74), (3, 64), (2, 41), (4, 85), (0, 0), (4, 86), (5, 106), (5, 106), (4, 86), (3, 64), (4, 97), (3, 63), (2, 42), (1, 22), (0, 0), (0, 0), (0, 0), (0, 0), (1, 21), (3, 63), (2, 44), (0, 0), (5, 110), (1, 22), (1, 25), (0, 0), (4, 90), (3, 65), (2, 43), (1, 22), (5, 110), (5, 110), (0, 0), (1, 23), (5, 113), (4, 92), (3, 66), (0, 0), (2, 45), (0, 0), (1, 21), (2, 45), (2, 45), (1, 22), (1, 21), (4, 90), (3, 67), (1, 21), (0, 0), (2, 43), (2, 46), (1, 20), (0, 0), (4, 98), (1, 21), (3, 74), (0, 0), (0, 0), (3, 68), (2, 44), (4, 95), (3, 68), (0, 0), (4, 90), (0, 0), (5, 122), (4, 98), (0, 0), (5, 110), (0, 0), (0, 0), (5, 110), (5, 110), (0, 0), (0, 0), (5, 113), (0, 0), (5, 122), (5, 122), (0, 0), (0, 0), (0, 0), (0, 0), (0, 0), (0, 0), (0, 0), (0, 0), (0, 0), (9, 324)]
def fd_RO (j : Nat) : Nat × Nat := fd_ROs.getD j (0, 0)
def fd_ois : List Nat := [0, 0, 0, 0, 0, 0, 0, 0, 0, 0, 0, 0, 0, 0, 0, 0, 0, 0, 0, 0, 0, 0, 0, 0, 0, 0, 0, 0, 0, 0, 0, 0, 0, 0, 0, 0, 0, 0, 1, 1, 1, 2, 2, 2, 2, 2, 2, 2, 2, 2, 2, 2, 2, 2, 2, 2, 2, 2, 3, 3, 3, 3, 3, 3, 3, 3, 3, 3, 3, 3, 3, 3, 3, 3, 4, 4, 4, 5, 5, 5, 5, 5, 5, 5, 5, 5, 5, 5, 5, 5, 5, 5, 5, 5, 5, 5, 5, 5, 5, 5, 5, 5, 5, 5, 5, 5, 5, 5, 5, 5, 5, 5, 5, 5, 7, 7, 7, 7, 7, 7, 7, 7, 7, 7, 7, 7, 7, 7, 7, 7, 7, 7, 7, 7, 7, 7, 7, 7, 7, 7, 7, 7, 7, 7, 7, 7, 7, 7, 7, 7, 7, 7, 7, 7, 7, 7, 7, 7, 7, 7, 7, 7, 7, 7, 7, 7, 7, 7, 7, 7, 7, 7, 7, 7, 7, 7, 7, 7, 7, 7, 7, 7, 8, 9, 0, 1, 2, 3, 4, 5, 7, 6]
def fd_oi (j : Nat) : Nat := fd_ois.getD j 1000
abbrev fd_CT0 : List (Nat × Int) := []
abbrev fd_CL0 : List (Nat × Int) := []
abbrev fd_FT0 : List (Nat × Nat × Nat) := [(29, 0, 3), (36, 0, 4), (12, 0, 0), (22, 0, 2), (16, 0, 1), (43, 0, 5)]
abbrev fd_PT0 : List (Nat × Nat × Nat) := []
abbrev fd_LT0 : List (Nat × Nat) := [(47, 1), (51, 2), (54, 58), (58, 38), (62, 78), (66, 79), (70, 69), (74, 70), (77, 81), (81, 4), (84, 3), (88, 83), (91, 80), (95, 84), (98, 85), (101, 86), (105, 87), (108, 89), (111, 13), (114, 92), (117, 94), (120, 95), (123, 97), (126, 41), (129, 46), (132, 100), (263, 6), (135, 99), (138, 5), (141, 82), (144, 7), (147, 103), (150, 104), (153, 47), (156, 105), (159, 21), (162, 90), (165, 91), (168, 96), (171, 106), (174, 107), (177, 108), (180, 109), (183, 110), (186, 49), (189, 50), (190, 51), (193, 48), (196, 52), (199, 53), (202, 54), (205, 111), (208, 112), (211, 113), (214, 71), (217, 39), (218, 25), (221, 55), (224, 56), (227, 57), (230, 27), (233, 77), (236, 29), (239, 72), (243, 73), (247, 40), (250, 36), (253, 74), (257, 75), (260, 76)]
abbrev fd_CT1 : List (Nat × Int) := []
abbrev fd_CL1 : List (Nat × Int) := []
abbrev fd_FT1 : List (Nat × Nat × Nat) := [(21, 1, 2), (11, 1, 0), (17, 1, 1)]
abbrev fd_PT1 : List (Nat × Nat × Nat) := [(21, 1, 2), (17, 1, 1)]
abbrev fd_LT1 : List (Nat × Nat) := [(25, 77), (29, 1000002)]
abbrev fd_CT2 : List (Nat × Int) := []
abbrev fd_CL2 : List (Nat × Int) := []
abbrev fd_FT2 : List (Nat × Nat × Nat) := [(15, 2, 1), (9, 2, 0), (19, 2, 2), (22, 2, 3), (25, 2, 4), (34, 2, 7), (28, 2, 5), (31, 2, 6)]
abbrev fd_PT2 : List (Nat × Nat × Nat) := [(9, 2, 0)]
abbrev fd_LT2 : List (Nat × Nat) := [(38, 183), (44, 83), (50, 42), (54, 43), (57, 44), (61, 17), (65, 1000002), (71, 1000001), (74, 98), (77, 45), (81, 6), (84, 18), (87, 99), (90, 48), (93, 51), (96, 50), (99, 53), (102, 54)]
abbrev fd_CT3 : List (Nat × Int) := [(49, 16777215), (57, 16773120)]
abbrev fd_CL3 : List (Nat × Int) := [(19, 255)]
abbrev fd_FT3 : List (Nat × Nat × Nat) := [(15, 3, 1), (11, 3, 0)]
abbrev fd_PT3 : List (Nat × Nat × Nat) := [(15, 3, 1)]
abbrev fd_LT3 : List (Nat × Nat) := [(25, 59), (29, 68), (33, 67), (36, 60), (39, 62), (21, 61), (42, 63), (46, 66), (50, 64), (54, 65), (58, 80)]
abbrev fd_CT4 : List (Nat × Int) := []
abbrev fd_CL4 : List (Nat × Int) := []
abbrev fd_FT4 : List (Nat × Nat × Nat) := [(11, 4, 0), (17, 4, 1)]
abbrev fd_PT4 : List (Nat × Nat × Nat) := []
abbrev fd_LT4 : List (Nat × Nat) := [(22, 36), (26, 77), (30, 75)]
abbrev fd_CT5 : List (Nat × Int) := []
abbrev fd_CL5 : List (Nat × Int) := []
abbrev fd_FT5 : List (Nat × Nat × Nat) := [(9, 5, 0), (15, 5, 1), (18, 5, 2)]
abbrev fd_PT5 : List (Nat × Nat × Nat) := []
abbrev fd_LT5 : List (Nat × Nat) := [(21, 1000000), (48, 1), (38, 3), (51, 4), (54, 5), (57, 82), (80, 182), (60, 7), (42, 83), (27, 6), (63, 88), (67, 80), (31, 84), (74, 78), (94, 90), (97, 91), (71, 93), (77, 96), (45, 17), (35, 18), (114, 101), (103, 102), (106, 1000002), (111, 1000001), (118, 100), (100, 97), (85, 81), (88, 99), (91, 106), (121, 103)]
abbrev fd_CT6 : List (Nat × Int) := []
abbrev fd_CL6 : List (Nat × Int) := [(84, 4294967295)]
abbrev fd_FT6 : List (Nat × Nat × Nat) := []
abbrev fd_PT6 : List (Nat × Nat × Nat) := []
abbrev fd_LT6 : List (Nat × Nat) := [(13, 0), (17, 137), (18, 8), (22, 114), (23, 9), (26, 122), (27, 10), (31, 123), (32, 11), (35, 125), (36, 12), (39, 133), (40, 14), (43, 134), (44, 15), (47, 136), (48, 16), (51, 148), (52, 19), (55, 156), (56, 20), (59, 161), (60, 22), (63, 163), (64, 23), (67, 166), (68, 24), (71, 168), (72, 26), (75, 171), (76, 28), (79, 174), (80, 30), (83, 175), (86, 31), (90, 176), (91, 32), (95, 177), (96, 33), (99, 178), (100, 34), (103, 179), (104, 35), (107, 180), (108, 37), (111, 181)]
abbrev fd_CT7 : List (Nat × Int) := []
abbrev fd_CL7 : List (Nat × Int) := [(223, 255), (225, 33), (227, 126)]
abbrev fd_FT7 : List (Nat × Nat × Nat) := [(7, 6, 0), (62, 6, 16), (19, 6, 3), (13, 6, 1), (171, 6, 17), (47, 6, 12), (139, 6, 18), (142, 6, 15), (50, 6, 13), (149, 6, 19), (29, 6, 6), (96, 6, 14), (32, 6, 7), (38, 6, 9), (35, 6, 8), (41, 6, 10), (44, 6, 11), (16, 6, 2), (22, 6, 4), (25, 6, 5)]
abbrev fd_PT7 : List (Nat × Nat × Nat) := [(62, 6, 16), (142, 6, 15), (139, 6, 18), (171, 6, 17), (149, 6, 19), (96, 6, 14)]
abbrev fd_LT7 : List (Nat × Nat) := [(103, 115), (70, 118), (107, 119), (110, 120), (114, 121), (58, 116), (54, 117), (117, 124), (124, 126), (127, 127), (131, 129), (120, 128), (76, 130), (73, 131), (66, 132), (135, 135), (181, 138), (174, 139), (178, 147), (167, 146), (145, 140), (158, 141), (161, 144), (164, 145), (152, 142), (155, 143), (184, 149), (86, 153), (89, 150), (93, 151), (99, 152), (83, 154), (80, 155), (187, 157), (190, 158), (193, 159), (196, 160), (199, 162), (205, 164), (202, 165), (208, 167), (211, 169), (214, 170), (217, 172), (220, 173)]
abbrev fd_CT8 : List (Nat × Int) := [(265, 1431655765), (266, 858993459), (267, 252645135)]
abbrev fd_CL8 : List (Nat × Int) := []
abbrev fd_FT8 : List (Nat × Nat × Nat) := []
abbrev fd_PT8 : List (Nat × Nat × Nat) := []
abbrev fd_LT8 : List (Nat × Nat) := []
abbrev fd_CT9 : List (Nat × Int) := []
abbrev fd_CL9 : List (Nat × Int) := []
abbrev fd_FT9 : List (Nat × Nat × Nat) := []
abbrev fd_PT9 : List (Nat × Nat × Nat) := []
abbrev fd_LT9 : List (Nat × Nat) := []
def fd_CTc : Nat → List (Nat × Int) := fun j => match j with
  | 0 => fd_CT0
  | 1 => fd_CT1
  | 2 => fd_CT2
  | 3 => fd_CT3
  | 4 => fd_CT4
  | 5 => fd_CT5
  | 6 => fd_CT6
  | 7 => fd_CT7
  | 8 => fd_CT8
  | 9 => fd_CT9
  | _ => []
def fd_CT (j : Nat) : List (Nat × Int) := fd_CTc (fd_oi j)
def fd_CLc : Nat → List (Nat × Int) := fun j => match j with
  | 0 => fd_CL0
  | 1 => fd_CL1
  | 2 => fd_CL2
  | 3 => fd_CL3
  | 4 => fd_CL4
  | 5 => fd_CL5
  | 6 => fd_CL6
  | 7 => fd_CL7
  | 8 => fd_CL8
  | 9 => fd_CL9
  | _ => []
def fd_CL (j : Nat) : List (Nat × Int) := fd_CLc (fd_oi j)
def fd_FTc : Nat → List (Nat × Nat × Nat) := fun j => match j with
  | 0 => fd_FT0
  | 1 => fd_FT1
  | 2 => fd_FT2
  | 3 => fd_FT3
  | 4 => fd_FT4
  | 5 => fd_FT5
  | 6 => fd_FT6
  | 7 => fd_FT7
  | 8 => fd_FT8
  | 9 => fd_FT9
  | _ => []
def fd_FT (j : Nat) : List (Nat × Nat × Nat) := fd_FTc (fd_oi j)
def fd_PTc : Nat → List (Nat × Nat × Nat) := fun j => match j with
  | 0 => fd_PT0
  | 1 => fd_PT1
  | 2 => fd_PT2
  | 3 => fd_PT3
  | 4 => fd_PT4
  | 5 => fd_PT5
  | 6 => fd_PT6
  | 7 => fd_PT7
  | 8 => fd_PT8
  | 9 => fd_PT9
  | _ => []
def fd_PT (j : Nat) : List (Nat × Nat × Nat) := fd_PTc (fd_oi j)
def fd_LTc : Nat → List (Nat × Nat) := fun j => match j with
  | 0 => fd_LT0
  | 1 => fd_LT1
  | 2 => fd_LT2
  | 3 => fd_LT3
  | 4 => fd_LT4
  | 5 => fd_LT5
  | 6 => fd_LT6
  | 7 => fd_LT7
  | 8 => fd_LT8
  | 9 => fd_LT9
  | _ => []
def fd_LT (j : Nat) : List (Nat × Nat) := fd_LTc (fd_oi j)
end
section
/-! The data hold: each by the kernel -/
theorem fd_mem {w : Jvm.Cond} (i : Nat) (h : lw_tbl[i]? = some w ∧ goodWord w = true) : w ∈ fd_TG := List.mem_filter.mpr ⟨List.mem_of_getElem? h.1, h.2⟩
theorem fd_good : ∀ w ∈ fd_TG, goodWord w = true := fun w hw => (List.mem_filter.mp hw).2
def fd_chk (CT CL : List (Nat × Int)) (FT PT : List (Nat × Nat × Nat)) (LT : List (Nat × Nat)) (pcs : List Nat) (rf rl : Nat) (b : ByteArray) : Nat → List Instr → List (Instr × Nat) → Bool
  | i, mm :: r, ol :: r' => decide (decode b (pcs.getD i 0) = .ok ol) && decide (pcs.getD (i + 1) 0 = pcs.getD i 0 + ol.2) && fx_nrm CT CL FT PT LT pcs fd_G fd_RO rf rl (pcs.getD i 0) ol.2 mm ol.1 && fd_chk CT CL FT PT LT pcs rf rl b (i + 1) r r'
  | _, [], [] => true
  | _, _, _ => false
theorem fd_chk_get {CT CL : List (Nat × Int)} {FT PT : List (Nat × Nat × Nat)} {LT : List (Nat × Nat)} {pcs : List Nat} {rf rl : Nat} {b : ByteArray} : ∀ {cs : List Instr} {os : List (Instr × Nat)} {i : Nat}, fd_chk CT CL FT PT LT pcs rf rl b i cs os = true → ∀ {k : Nat} {mm : Instr}, cs[k]? = some mm →
    ∃ (o : Instr) (len : Nat), decode b (pcs.getD (i + k) 0) = .ok (o, len) ∧ pcs.getD (i + k + 1) 0 = pcs.getD (i + k) 0 + len ∧ fx_nrm CT CL FT PT LT pcs fd_G fd_RO rf rl (pcs.getD (i + k) 0) len mm o = true
  | [], _, _, _, k, mm, hk => by simp at hk
  | _ :: _, [], _, h, _, _, _ => by simp [fd_chk] at h
  | m0 :: cs, (o, len) :: os, i, h, k, mm, hk => by
    simp only [fd_chk, Bool.and_eq_true, decide_eq_true_eq] at h
    obtain ⟨⟨⟨h1, h2⟩, h3⟩, h4⟩ := h
    cases k with
    | zero =>
      simp only [List.getElem?_cons_zero, Option.some.injEq] at hk
      subst hk
      exact ⟨o, len, h1, h2, h3⟩
    | succ k =>
      simp only [List.getElem?_cons_succ] at hk
      have := fd_chk_get h4 hk
      rwa [show i + 1 + k = i + (k + 1) by omega] at this
theorem fd_u0 : ∀ w ∈ u_ws fd_R0 fd_T0 6, w ∈ fd_TG := by
  have h1 : ∀ w ∈ u_ws fd_R0 fd_T0 6, w ∈ lw_tbl := by decide +kernel
  have h2 : ∀ w ∈ u_ws fd_R0 fd_T0 6, goodWord w = true := by decide +kernel
  exact fun w hw => List.mem_filter.mpr ⟨h1 w hw, h2 w hw⟩
theorem fd_t0 : ∀ k, k < 6 → parseFieldDescriptor (fd_T0 k).2.2.1 = some (fd_ty0 k) := by decide +kernel
theorem fd_n0 : ∀ a, a < 6 → ∀ b, b < 6 → a ≠ b → (fd_T0 a).2.1 ≠ (fd_T0 b).2.1 := by decide +kernel
theorem fd_u1 : ∀ w ∈ u_ws fd_R1 fd_T1 3, w ∈ fd_TG := by
  have h1 : ∀ w ∈ u_ws fd_R1 fd_T1 3, w ∈ lw_tbl := by decide +kernel
  have h2 : ∀ w ∈ u_ws fd_R1 fd_T1 3, goodWord w = true := by decide +kernel
  exact fun w hw => List.mem_filter.mpr ⟨h1 w hw, h2 w hw⟩
theorem fd_t1 : ∀ k, k < 3 → parseFieldDescriptor (fd_T1 k).2.2.1 = some (fd_ty1 k) := by decide +kernel
theorem fd_n1 : ∀ a, a < 3 → ∀ b, b < 3 → a ≠ b → (fd_T1 a).2.1 ≠ (fd_T1 b).2.1 := by decide +kernel
theorem fd_u2 : ∀ w ∈ u_ws fd_R2 fd_T2 8, w ∈ fd_TG := by
  have h1 : ∀ w ∈ u_ws fd_R2 fd_T2 8, w ∈ lw_tbl := by decide +kernel
  have h2 : ∀ w ∈ u_ws fd_R2 fd_T2 8, goodWord w = true := by decide +kernel
  exact fun w hw => List.mem_filter.mpr ⟨h1 w hw, h2 w hw⟩
theorem fd_t2 : ∀ k, k < 8 → parseFieldDescriptor (fd_T2 k).2.2.1 = some (fd_ty2 k) := by decide +kernel
theorem fd_n2 : ∀ a, a < 8 → ∀ b, b < 8 → a ≠ b → (fd_T2 a).2.1 ≠ (fd_T2 b).2.1 := by decide +kernel
theorem fd_u3 : ∀ w ∈ u_ws fd_R3 fd_T3 2, w ∈ fd_TG := by
  have h1 : ∀ w ∈ u_ws fd_R3 fd_T3 2, w ∈ lw_tbl := by decide +kernel
  have h2 : ∀ w ∈ u_ws fd_R3 fd_T3 2, goodWord w = true := by decide +kernel
  exact fun w hw => List.mem_filter.mpr ⟨h1 w hw, h2 w hw⟩
theorem fd_t3 : ∀ k, k < 2 → parseFieldDescriptor (fd_T3 k).2.2.1 = some (fd_ty3 k) := by decide +kernel
theorem fd_n3 : ∀ a, a < 2 → ∀ b, b < 2 → a ≠ b → (fd_T3 a).2.1 ≠ (fd_T3 b).2.1 := by decide +kernel
theorem fd_u4 : ∀ w ∈ u_ws fd_R4 fd_T4 2, w ∈ fd_TG := by
  have h1 : ∀ w ∈ u_ws fd_R4 fd_T4 2, w ∈ lw_tbl := by decide +kernel
  have h2 : ∀ w ∈ u_ws fd_R4 fd_T4 2, goodWord w = true := by decide +kernel
  exact fun w hw => List.mem_filter.mpr ⟨h1 w hw, h2 w hw⟩
theorem fd_t4 : ∀ k, k < 2 → parseFieldDescriptor (fd_T4 k).2.2.1 = some (fd_ty4 k) := by decide +kernel
theorem fd_n4 : ∀ a, a < 2 → ∀ b, b < 2 → a ≠ b → (fd_T4 a).2.1 ≠ (fd_T4 b).2.1 := by decide +kernel
theorem fd_u5 : ∀ w ∈ u_ws fd_R5 fd_T5 3, w ∈ fd_TG := by
  have h1 : ∀ w ∈ u_ws fd_R5 fd_T5 3, w ∈ lw_tbl := by decide +kernel
  have h2 : ∀ w ∈ u_ws fd_R5 fd_T5 3, goodWord w = true := by decide +kernel
  exact fun w hw => List.mem_filter.mpr ⟨h1 w hw, h2 w hw⟩
theorem fd_t5 : ∀ k, k < 3 → parseFieldDescriptor (fd_T5 k).2.2.1 = some (fd_ty5 k) := by decide +kernel
theorem fd_n5 : ∀ a, a < 3 → ∀ b, b < 3 → a ≠ b → (fd_T5 a).2.1 ≠ (fd_T5 b).2.1 := by decide +kernel
theorem fd_u6 : ∀ w ∈ u_ws fd_R6 fd_T6 20, w ∈ fd_TG := by
  have h1 : ∀ w ∈ u_ws fd_R6 fd_T6 20, w ∈ lw_tbl := by decide +kernel
  have h2 : ∀ w ∈ u_ws fd_R6 fd_T6 20, goodWord w = true := by decide +kernel
  exact fun w hw => List.mem_filter.mpr ⟨h1 w hw, h2 w hw⟩
theorem fd_t6 : ∀ k, k < 20 → parseFieldDescriptor (fd_T6 k).2.2.1 = some (fd_ty6 k) := by decide +kernel
theorem fd_n6 : ∀ a, a < 20 → ∀ b, b < 20 → a ≠ b → (fd_T6 a).2.1 ≠ (fd_T6 b).2.1 := by decide +kernel
theorem fd_Cl : fx_Cl fd_TG fd_cl := by
  intro ci C T N h
  match ci, h with
  | 0, h => cases h; exact ⟨fd_u0, ⟨fd_ty0, fd_t0⟩, fd_n0⟩
  | 1, h => cases h; exact ⟨fd_u1, ⟨fd_ty1, fd_t1⟩, fd_n1⟩
  | 2, h => cases h; exact ⟨fd_u2, ⟨fd_ty2, fd_t2⟩, fd_n2⟩
  | 3, h => cases h; exact ⟨fd_u3, ⟨fd_ty3, fd_t3⟩, fd_n3⟩
  | 4, h => cases h; exact ⟨fd_u4, ⟨fd_ty4, fd_t4⟩, fd_n4⟩
  | 5, h => cases h; exact ⟨fd_u5, ⟨fd_ty5, fd_t5⟩, fd_n5⟩
  | 6, h => cases h; exact ⟨fd_u6, ⟨fd_ty6, fd_t6⟩, fd_n6⟩
  | k + 7, h => simp at h
theorem fd_m0 : fx_MF fd_TG fd_cl fd_G fd_y fd_b fd_PC 0 := ⟨by decide +kernel, rfl, fd_mem 189 (by decide +kernel), fd_mem 51 (by decide +kernel), ⟨by decide +kernel, by decide +kernel⟩, ⟨by decide +kernel, fd_mem 187 (by decide +kernel), fd_mem 188 (by decide +kernel), fd_T0, 6, rfl⟩⟩
theorem fd_m1 : fx_MF fd_TG fd_cl fd_G fd_y fd_b fd_PC 1 := ⟨by decide +kernel, rfl, fd_mem 192 (by decide +kernel), fd_mem 51 (by decide +kernel), ⟨by decide +kernel, by decide +kernel⟩, ⟨by decide +kernel, fd_mem 191 (by decide +kernel)⟩⟩
theorem fd_m2 : fx_MF fd_TG fd_cl fd_G fd_y fd_b fd_PC 2 := ⟨by decide +kernel, rfl, fd_mem 195 (by decide +kernel), fd_mem 51 (by decide +kernel), ⟨by decide +kernel, by decide +kernel⟩, ⟨by decide +kernel, fd_mem 194 (by decide +kernel)⟩⟩
theorem fd_m3 : fx_MF fd_TG fd_cl fd_G fd_y fd_b fd_PC 3 := ⟨by decide +kernel, rfl, fd_mem 259 (by decide +kernel), fd_mem 51 (by decide +kernel), ⟨by decide +kernel, by decide +kernel⟩, ⟨by decide +kernel, fd_mem 258 (by decide +kernel)⟩⟩
theorem fd_m4 : fx_MF fd_TG fd_cl fd_G fd_y fd_b fd_PC 4 := ⟨by decide +kernel, rfl, fd_mem 274 (by decide +kernel), fd_mem 51 (by decide +kernel), ⟨by decide +kernel, by decide +kernel⟩, ⟨by decide +kernel, fd_mem 273 (by decide +kernel)⟩⟩
theorem fd_m5 : fx_MF fd_TG fd_cl fd_G fd_y fd_b fd_PC 5 := ⟨by decide +kernel, rfl, fd_mem 285 (by decide +kernel), fd_mem 51 (by decide +kernel), ⟨by decide +kernel, by decide +kernel⟩, ⟨by decide +kernel, fd_mem 284 (by decide +kernel)⟩⟩
theorem fd_m6 : fx_MF fd_TG fd_cl fd_G fd_y fd_b fd_PC 6 := ⟨by decide +kernel, rfl, fd_mem 296 (by decide +kernel), fd_mem 51 (by decide +kernel), ⟨by decide +kernel, by decide +kernel⟩, ⟨by decide +kernel, fd_mem 295 (by decide +kernel)⟩⟩
theorem fd_m7 : fx_MF fd_TG fd_cl fd_G fd_y fd_b fd_PC 7 := ⟨by decide +kernel, rfl, fd_mem 305 (by decide +kernel), fd_mem 51 (by decide +kernel), ⟨by decide +kernel, by decide +kernel⟩, ⟨by decide +kernel, fd_mem 304 (by decide +kernel)⟩⟩
theorem fd_m8 : fx_MF fd_TG fd_cl fd_G fd_y fd_b fd_PC 8 := ⟨by decide +kernel, rfl, fd_mem 309 (by decide +kernel), fd_mem 51 (by decide +kernel), ⟨by decide +kernel, by decide +kernel⟩, ⟨by decide +kernel, fd_mem 307 (by decide +kernel), fd_mem 308 (by decide +kernel), fd_T0, 6, rfl⟩⟩
theorem fd_m9 : fx_MF fd_TG fd_cl fd_G fd_y fd_b fd_PC 9 := ⟨by decide +kernel, rfl, fd_mem 317 (by decide +kernel), fd_mem 51 (by decide +kernel), ⟨by decide +kernel, by decide +kernel⟩, ⟨by decide +kernel, fd_mem 315 (by decide +kernel), fd_mem 316 (by decide +kernel), fd_T0, 6, rfl⟩⟩
theorem fd_m10 : fx_MF fd_TG fd_cl fd_G fd_y fd_b fd_PC 10 := ⟨by decide +kernel, rfl, fd_mem 329 (by decide +kernel), fd_mem 51 (by decide +kernel), ⟨by decide +kernel, by decide +kernel⟩, ⟨by decide +kernel, fd_mem 327 (by decide +kernel), fd_mem 328 (by decide +kernel), fd_T0, 6, rfl⟩⟩
theorem fd_m11 : fx_MF fd_TG fd_cl fd_G fd_y fd_b fd_PC 11 := ⟨by decide +kernel, rfl, fd_mem 333 (by decide +kernel), fd_mem 51 (by decide +kernel), ⟨by decide +kernel, by decide +kernel⟩, ⟨by decide +kernel, fd_mem 331 (by decide +kernel), fd_mem 332 (by decide +kernel), fd_T0, 6, rfl⟩⟩
theorem fd_m12 : fx_MF fd_TG fd_cl fd_G fd_y fd_b fd_PC 12 := ⟨by decide +kernel, rfl, fd_mem 364 (by decide +kernel), fd_mem 51 (by decide +kernel), ⟨by decide +kernel, by decide +kernel⟩, ⟨by decide +kernel, fd_mem 362 (by decide +kernel), fd_mem 363 (by decide +kernel), fd_T0, 6, rfl⟩⟩
theorem fd_m13 : fx_MF fd_TG fd_cl fd_G fd_y fd_b fd_PC 13 := ⟨by decide +kernel, rfl, fd_mem 367 (by decide +kernel), fd_mem 51 (by decide +kernel), ⟨by decide +kernel, by decide +kernel⟩, ⟨by decide +kernel, fd_mem 366 (by decide +kernel)⟩⟩
theorem fd_m14 : fx_MF fd_TG fd_cl fd_G fd_y fd_b fd_PC 14 := ⟨by decide +kernel, rfl, fd_mem 378 (by decide +kernel), fd_mem 51 (by decide +kernel), ⟨by decide +kernel, by decide +kernel⟩, ⟨by decide +kernel, fd_mem 376 (by decide +kernel), fd_mem 377 (by decide +kernel), fd_T0, 6, rfl⟩⟩
theorem fd_m15 : fx_MF fd_TG fd_cl fd_G fd_y fd_b fd_PC 15 := ⟨by decide +kernel, rfl, fd_mem 386 (by decide +kernel), fd_mem 51 (by decide +kernel), ⟨by decide +kernel, by decide +kernel⟩, ⟨by decide +kernel, fd_mem 384 (by decide +kernel), fd_mem 385 (by decide +kernel), fd_T0, 6, rfl⟩⟩
theorem fd_m16 : fx_MF fd_TG fd_cl fd_G fd_y fd_b fd_PC 16 := ⟨by decide +kernel, rfl, fd_mem 398 (by decide +kernel), fd_mem 51 (by decide +kernel), ⟨by decide +kernel, by decide +kernel⟩, ⟨by decide +kernel, fd_mem 396 (by decide +kernel), fd_mem 397 (by decide +kernel), fd_T0, 6, rfl⟩⟩
theorem fd_m17 : fx_MF fd_TG fd_cl fd_G fd_y fd_b fd_PC 17 := ⟨by decide +kernel, rfl, fd_mem 405 (by decide +kernel), fd_mem 51 (by decide +kernel), ⟨by decide +kernel, by decide +kernel⟩, ⟨by decide +kernel, fd_mem 404 (by decide +kernel)⟩⟩
theorem fd_m18 : fx_MF fd_TG fd_cl fd_G fd_y fd_b fd_PC 18 := ⟨by decide +kernel, rfl, fd_mem 432 (by decide +kernel), fd_mem 51 (by decide +kernel), ⟨by decide +kernel, by decide +kernel⟩, ⟨by decide +kernel, fd_mem 431 (by decide +kernel)⟩⟩
theorem fd_m19 : fx_MF fd_TG fd_cl fd_G fd_y fd_b fd_PC 19 := ⟨by decide +kernel, rfl, fd_mem 467 (by decide +kernel), fd_mem 51 (by decide +kernel), ⟨by decide +kernel, by decide +kernel⟩, ⟨by decide +kernel, fd_mem 465 (by decide +kernel), fd_mem 466 (by decide +kernel), fd_T0, 6, rfl⟩⟩
theorem fd_m20 : fx_MF fd_TG fd_cl fd_G fd_y fd_b fd_PC 20 := ⟨by decide +kernel, rfl, fd_mem 497 (by decide +kernel), fd_mem 51 (by decide +kernel), ⟨by decide +kernel, by decide +kernel⟩, ⟨by decide +kernel, fd_mem 495 (by decide +kernel), fd_mem 496 (by decide +kernel), fd_T0, 6, rfl⟩⟩
theorem fd_m21 : fx_MF fd_TG fd_cl fd_G fd_y fd_b fd_PC 21 := ⟨by decide +kernel, rfl, fd_mem 500 (by decide +kernel), fd_mem 51 (by decide +kernel), ⟨by decide +kernel, by decide +kernel⟩, ⟨by decide +kernel, fd_mem 499 (by decide +kernel)⟩⟩
theorem fd_m22 : fx_MF fd_TG fd_cl fd_G fd_y fd_b fd_PC 22 := ⟨by decide +kernel, rfl, fd_mem 511 (by decide +kernel), fd_mem 51 (by decide +kernel), ⟨by decide +kernel, by decide +kernel⟩, ⟨by decide +kernel, fd_mem 509 (by decide +kernel), fd_mem 510 (by decide +kernel), fd_T0, 6, rfl⟩⟩
theorem fd_m23 : fx_MF fd_TG fd_cl fd_G fd_y fd_b fd_PC 23 := ⟨by decide +kernel, rfl, fd_mem 534 (by decide +kernel), fd_mem 51 (by decide +kernel), ⟨by decide +kernel, by decide +kernel⟩, ⟨by decide +kernel, fd_mem 532 (by decide +kernel), fd_mem 533 (by decide +kernel), fd_T0, 6, rfl⟩⟩
theorem fd_m24 : fx_MF fd_TG fd_cl fd_G fd_y fd_b fd_PC 24 := ⟨by decide +kernel, rfl, fd_mem 563 (by decide +kernel), fd_mem 51 (by decide +kernel), ⟨by decide +kernel, by decide +kernel⟩, ⟨by decide +kernel, fd_mem 561 (by decide +kernel), fd_mem 562 (by decide +kernel), fd_T0, 6, rfl⟩⟩
theorem fd_m25 : fx_MF fd_TG fd_cl fd_G fd_y fd_b fd_PC 25 := ⟨by decide +kernel, rfl, fd_mem 588 (by decide +kernel), fd_mem 51 (by decide +kernel), ⟨by decide +kernel, by decide +kernel⟩, ⟨by decide +kernel, fd_mem 587 (by decide +kernel), fd_mem 10 (by decide +kernel), fd_T0, 6, rfl⟩⟩
theorem fd_m26 : fx_MF fd_TG fd_cl fd_G fd_y fd_b fd_PC 26 := ⟨by decide +kernel, rfl, fd_mem 608 (by decide +kernel), fd_mem 51 (by decide +kernel), ⟨by decide +kernel, by decide +kernel⟩, ⟨by decide +kernel, fd_mem 606 (by decide +kernel), fd_mem 607 (by decide +kernel), fd_T0, 6, rfl⟩⟩
theorem fd_m27 : fx_MF fd_TG fd_cl fd_G fd_y fd_b fd_PC 27 := ⟨by decide +kernel, rfl, fd_mem 612 (by decide +kernel), fd_mem 51 (by decide +kernel), ⟨by decide +kernel, by decide +kernel⟩, ⟨by decide +kernel, fd_mem 611 (by decide +kernel), fd_mem 11 (by decide +kernel), fd_T0, 6, rfl⟩⟩
theorem fd_m28 : fx_MF fd_TG fd_cl fd_G fd_y fd_b fd_PC 28 := ⟨by decide +kernel, rfl, fd_mem 617 (by decide +kernel), fd_mem 51 (by decide +kernel), ⟨by decide +kernel, by decide +kernel⟩, ⟨by decide +kernel, fd_mem 615 (by decide +kernel), fd_mem 616 (by decide +kernel), fd_T0, 6, rfl⟩⟩
theorem fd_m29 : fx_MF fd_TG fd_cl fd_G fd_y fd_b fd_PC 29 := ⟨by decide +kernel, rfl, fd_mem 621 (by decide +kernel), fd_mem 51 (by decide +kernel), ⟨by decide +kernel, by decide +kernel⟩, ⟨by decide +kernel, fd_mem 620 (by decide +kernel), fd_mem 12 (by decide +kernel), fd_T0, 6, rfl⟩⟩
theorem fd_m30 : fx_MF fd_TG fd_cl fd_G fd_y fd_b fd_PC 30 := ⟨by decide +kernel, rfl, fd_mem 625 (by decide +kernel), fd_mem 51 (by decide +kernel), ⟨by decide +kernel, by decide +kernel⟩, ⟨by decide +kernel, fd_mem 623 (by decide +kernel), fd_mem 624 (by decide +kernel), fd_T0, 6, rfl⟩⟩
theorem fd_m31 : fx_MF fd_TG fd_cl fd_G fd_y fd_b fd_PC 31 := ⟨by decide +kernel, rfl, fd_mem 629 (by decide +kernel), fd_mem 51 (by decide +kernel), ⟨by decide +kernel, by decide +kernel⟩, ⟨by decide +kernel, fd_mem 627 (by decide +kernel), fd_mem 628 (by decide +kernel), fd_T0, 6, rfl⟩⟩
theorem fd_m32 : fx_MF fd_TG fd_cl fd_G fd_y fd_b fd_PC 32 := ⟨by decide +kernel, rfl, fd_mem 641 (by decide +kernel), fd_mem 51 (by decide +kernel), ⟨by decide +kernel, by decide +kernel⟩, ⟨by decide +kernel, fd_mem 639 (by decide +kernel), fd_mem 640 (by decide +kernel), fd_T0, 6, rfl⟩⟩
theorem fd_m33 : fx_MF fd_TG fd_cl fd_G fd_y fd_b fd_PC 33 := ⟨by decide +kernel, rfl, fd_mem 645 (by decide +kernel), fd_mem 51 (by decide +kernel), ⟨by decide +kernel, by decide +kernel⟩, ⟨by decide +kernel, fd_mem 643 (by decide +kernel), fd_mem 644 (by decide +kernel), fd_T0, 6, rfl⟩⟩
theorem fd_m34 : fx_MF fd_TG fd_cl fd_G fd_y fd_b fd_PC 34 := ⟨by decide +kernel, rfl, fd_mem 649 (by decide +kernel), fd_mem 51 (by decide +kernel), ⟨by decide +kernel, by decide +kernel⟩, ⟨by decide +kernel, fd_mem 647 (by decide +kernel), fd_mem 648 (by decide +kernel), fd_T0, 6, rfl⟩⟩
theorem fd_m35 : fx_MF fd_TG fd_cl fd_G fd_y fd_b fd_PC 35 := ⟨by decide +kernel, rfl, fd_mem 657 (by decide +kernel), fd_mem 51 (by decide +kernel), ⟨by decide +kernel, by decide +kernel⟩, ⟨by decide +kernel, fd_mem 655 (by decide +kernel), fd_mem 656 (by decide +kernel), fd_T0, 6, rfl⟩⟩
theorem fd_m36 : fx_MF fd_TG fd_cl fd_G fd_y fd_b fd_PC 36 := ⟨by decide +kernel, rfl, fd_mem 660 (by decide +kernel), fd_mem 51 (by decide +kernel), ⟨by decide +kernel, by decide +kernel⟩, ⟨by decide +kernel, fd_mem 659 (by decide +kernel)⟩⟩
theorem fd_m37 : fx_MF fd_TG fd_cl fd_G fd_y fd_b fd_PC 37 := ⟨by decide +kernel, rfl, fd_mem 670 (by decide +kernel), fd_mem 51 (by decide +kernel), ⟨by decide +kernel, by decide +kernel⟩, ⟨by decide +kernel, fd_mem 668 (by decide +kernel), fd_mem 669 (by decide +kernel), fd_T0, 6, rfl⟩⟩
theorem fd_m38 : fx_MF fd_TG fd_cl fd_G fd_y fd_b fd_PC 38 := ⟨by decide +kernel, rfl, fd_mem 241 (by decide +kernel), fd_mem 55 (by decide +kernel), ⟨by decide +kernel, by decide +kernel⟩, ⟨by decide +kernel, fd_mem 239 (by decide +kernel), fd_mem 240 (by decide +kernel), fd_T1, 3, rfl⟩⟩
theorem fd_m39 : fx_MF fd_TG fd_cl fd_G fd_y fd_b fd_PC 39 := ⟨by decide +kernel, rfl, fd_mem 584 (by decide +kernel), fd_mem 55 (by decide +kernel), ⟨by decide +kernel, by decide +kernel⟩, ⟨by decide +kernel, fd_mem 582 (by decide +kernel), fd_mem 583 (by decide +kernel), fd_T1, 3, rfl⟩⟩
theorem fd_m40 : fx_MF fd_TG fd_cl fd_G fd_y fd_b fd_PC 40 := ⟨by decide +kernel, rfl, fd_mem 653 (by decide +kernel), fd_mem 55 (by decide +kernel), ⟨by decide +kernel, by decide +kernel⟩, ⟨by decide +kernel, fd_mem 651 (by decide +kernel), fd_mem 652 (by decide +kernel), fd_T1, 3, rfl⟩⟩
theorem fd_m41 : fx_MF fd_TG fd_cl fd_G fd_y fd_b fd_PC 41 := ⟨by decide +kernel, rfl, fd_mem 410 (by decide +kernel), fd_mem 53 (by decide +kernel), ⟨by decide +kernel, by decide +kernel⟩, ⟨by decide +kernel, fd_mem 408 (by decide +kernel), fd_mem 409 (by decide +kernel), fd_T2, 8, rfl⟩⟩
theorem fd_m42 : fx_MF fd_TG fd_cl fd_G fd_y fd_b fd_PC 42 := ⟨by decide +kernel, rfl, fd_mem 418 (by decide +kernel), fd_mem 53 (by decide +kernel), ⟨by decide +kernel, by decide +kernel⟩, ⟨by decide +kernel, fd_mem 417 (by decide +kernel), fd_mem 7 (by decide +kernel), fd_T2, 8, rfl⟩⟩
theorem fd_m43 : fx_MF fd_TG fd_cl fd_G fd_y fd_b fd_PC 43 := ⟨by decide +kernel, rfl, fd_mem 421 (by decide +kernel), fd_mem 53 (by decide +kernel), ⟨by decide +kernel, by decide +kernel⟩, ⟨by decide +kernel, fd_mem 420 (by decide +kernel)⟩⟩
theorem fd_m44 : fx_MF fd_TG fd_cl fd_G fd_y fd_b fd_PC 44 := ⟨by decide +kernel, rfl, fd_mem 425 (by decide +kernel), fd_mem 53 (by decide +kernel), ⟨by decide +kernel, by decide +kernel⟩, ⟨by decide +kernel, fd_mem 424 (by decide +kernel), fd_mem 8 (by decide +kernel), fd_T2, 8, rfl⟩⟩
theorem fd_m45 : fx_MF fd_TG fd_cl fd_G fd_y fd_b fd_PC 45 := ⟨by decide +kernel, rfl, fd_mem 436 (by decide +kernel), fd_mem 53 (by decide +kernel), ⟨by decide +kernel, by decide +kernel⟩, ⟨by decide +kernel, fd_mem 435 (by decide +kernel), fd_mem 9 (by decide +kernel), fd_T2, 8, rfl⟩⟩
theorem fd_m46 : fx_MF fd_TG fd_cl fd_G fd_y fd_b fd_PC 46 := ⟨by decide +kernel, rfl, fd_mem 451 (by decide +kernel), fd_mem 53 (by decide +kernel), ⟨by decide +kernel, by decide +kernel⟩, ⟨by decide +kernel, fd_mem 449 (by decide +kernel), fd_mem 450 (by decide +kernel), fd_T2, 8, rfl⟩⟩
theorem fd_m47 : fx_MF fd_TG fd_cl fd_G fd_y fd_b fd_PC 47 := ⟨by decide +kernel, rfl, fd_mem 485 (by decide +kernel), fd_mem 53 (by decide +kernel), ⟨by decide +kernel, by decide +kernel⟩, ⟨by decide +kernel, fd_mem 483 (by decide +kernel), fd_mem 484 (by decide +kernel), fd_T2, 8, rfl⟩⟩
theorem fd_m48 : fx_MF fd_TG fd_cl fd_G fd_y fd_b fd_PC 48 := ⟨by decide +kernel, rfl, fd_mem 489 (by decide +kernel), fd_mem 53 (by decide +kernel), ⟨by decide +kernel, by decide +kernel⟩, ⟨by decide +kernel, fd_mem 487 (by decide +kernel), fd_mem 488 (by decide +kernel), fd_T2, 8, rfl⟩⟩
theorem fd_m49 : fx_MF fd_TG fd_cl fd_G fd_y fd_b fd_PC 49 := ⟨by decide +kernel, rfl, fd_mem 538 (by decide +kernel), fd_mem 53 (by decide +kernel), ⟨by decide +kernel, by decide +kernel⟩, ⟨by decide +kernel, fd_mem 536 (by decide +kernel), fd_mem 537 (by decide +kernel), fd_T2, 8, rfl⟩⟩
theorem fd_m50 : fx_MF fd_TG fd_cl fd_G fd_y fd_b fd_PC 50 := ⟨by decide +kernel, rfl, fd_mem 542 (by decide +kernel), fd_mem 53 (by decide +kernel), ⟨by decide +kernel, by decide +kernel⟩, ⟨by decide +kernel, fd_mem 540 (by decide +kernel), fd_mem 541 (by decide +kernel), fd_T2, 8, rfl⟩⟩
theorem fd_m51 : fx_MF fd_TG fd_cl fd_G fd_y fd_b fd_PC 51 := ⟨by decide +kernel, rfl, fd_mem 546 (by decide +kernel), fd_mem 53 (by decide +kernel), ⟨by decide +kernel, by decide +kernel⟩, ⟨by decide +kernel, fd_mem 544 (by decide +kernel), fd_mem 545 (by decide +kernel), fd_T2, 8, rfl⟩⟩
theorem fd_m52 : fx_MF fd_TG fd_cl fd_G fd_y fd_b fd_PC 52 := ⟨by decide +kernel, rfl, fd_mem 551 (by decide +kernel), fd_mem 53 (by decide +kernel), ⟨by decide +kernel, by decide +kernel⟩, ⟨by decide +kernel, fd_mem 549 (by decide +kernel), fd_mem 550 (by decide +kernel), fd_T2, 8, rfl⟩⟩
theorem fd_m53 : fx_MF fd_TG fd_cl fd_G fd_y fd_b fd_PC 53 := ⟨by decide +kernel, rfl, fd_mem 555 (by decide +kernel), fd_mem 53 (by decide +kernel), ⟨by decide +kernel, by decide +kernel⟩, ⟨by decide +kernel, fd_mem 553 (by decide +kernel), fd_mem 554 (by decide +kernel), fd_T2, 8, rfl⟩⟩
theorem fd_m54 : fx_MF fd_TG fd_cl fd_G fd_y fd_b fd_PC 54 := ⟨by decide +kernel, rfl, fd_mem 559 (by decide +kernel), fd_mem 53 (by decide +kernel), ⟨by decide +kernel, by decide +kernel⟩, ⟨by decide +kernel, fd_mem 557 (by decide +kernel), fd_mem 558 (by decide +kernel), fd_T2, 8, rfl⟩⟩
theorem fd_m55 : fx_MF fd_TG fd_cl fd_G fd_y fd_b fd_PC 55 := ⟨by decide +kernel, rfl, fd_mem 592 (by decide +kernel), fd_mem 53 (by decide +kernel), ⟨by decide +kernel, by decide +kernel⟩, ⟨by decide +kernel, fd_mem 590 (by decide +kernel), fd_mem 591 (by decide +kernel), fd_T2, 8, rfl⟩⟩
theorem fd_m56 : fx_MF fd_TG fd_cl fd_G fd_y fd_b fd_PC 56 := ⟨by decide +kernel, rfl, fd_mem 597 (by decide +kernel), fd_mem 53 (by decide +kernel), ⟨by decide +kernel, by decide +kernel⟩, ⟨by decide +kernel, fd_mem 595 (by decide +kernel), fd_mem 596 (by decide +kernel), fd_T2, 8, rfl⟩⟩
theorem fd_m57 : fx_MF fd_TG fd_cl fd_G fd_y fd_b fd_PC 57 := ⟨by decide +kernel, rfl, fd_mem 602 (by decide +kernel), fd_mem 53 (by decide +kernel), ⟨by decide +kernel, by decide +kernel⟩, ⟨by decide +kernel, fd_mem 600 (by decide +kernel), fd_mem 601 (by decide +kernel), fd_T2, 8, rfl⟩⟩
theorem fd_m58 : fx_MF fd_TG fd_cl fd_G fd_y fd_b fd_PC 58 := ⟨by decide +kernel, rfl, fd_mem 199 (by decide +kernel), fd_mem 54 (by decide +kernel), ⟨by decide +kernel, by decide +kernel⟩, ⟨by decide +kernel, fd_mem 197 (by decide +kernel), fd_mem 198 (by decide +kernel), fd_T3, 2, rfl⟩⟩
theorem fd_m59 : fx_MF fd_TG fd_cl fd_G fd_y fd_b fd_PC 59 := ⟨by decide +kernel, rfl, fd_mem 203 (by decide +kernel), fd_mem 54 (by decide +kernel), ⟨by decide +kernel, by decide +kernel⟩, ⟨by decide +kernel, fd_mem 202 (by decide +kernel), fd_mem 0 (by decide +kernel), fd_T3, 2, rfl⟩⟩
theorem fd_m60 : fx_MF fd_TG fd_cl fd_G fd_y fd_b fd_PC 60 := ⟨by decide +kernel, rfl, fd_mem 207 (by decide +kernel), fd_mem 54 (by decide +kernel), ⟨by decide +kernel, by decide +kernel⟩, ⟨by decide +kernel, fd_mem 206 (by decide +kernel), fd_mem 1 (by decide +kernel), fd_T3, 2, rfl⟩⟩
theorem fd_m61 : fx_MF fd_TG fd_cl fd_G fd_y fd_b fd_PC 61 := ⟨by decide +kernel, rfl, fd_mem 211 (by decide +kernel), fd_mem 54 (by decide +kernel), ⟨by decide +kernel, by decide +kernel⟩, ⟨by decide +kernel, fd_mem 210 (by decide +kernel), fd_mem 2 (by decide +kernel), fd_T3, 2, rfl⟩⟩
theorem fd_m62 : fx_MF fd_TG fd_cl fd_G fd_y fd_b fd_PC 62 := ⟨by decide +kernel, rfl, fd_mem 214 (by decide +kernel), fd_mem 54 (by decide +kernel), ⟨by decide +kernel, by decide +kernel⟩, ⟨by decide +kernel, fd_mem 213 (by decide +kernel)⟩⟩
theorem fd_m63 : fx_MF fd_TG fd_cl fd_G fd_y fd_b fd_PC 63 := ⟨by decide +kernel, rfl, fd_mem 217 (by decide +kernel), fd_mem 54 (by decide +kernel), ⟨by decide +kernel, by decide +kernel⟩, ⟨by decide +kernel, fd_mem 216 (by decide +kernel)⟩⟩
theorem fd_m64 : fx_MF fd_TG fd_cl fd_G fd_y fd_b fd_PC 64 := ⟨by decide +kernel, rfl, fd_mem 220 (by decide +kernel), fd_mem 54 (by decide +kernel), ⟨by decide +kernel, by decide +kernel⟩, ⟨by decide +kernel, fd_mem 219 (by decide +kernel)⟩⟩
theorem fd_m65 : fx_MF fd_TG fd_cl fd_G fd_y fd_b fd_PC 65 := ⟨by decide +kernel, rfl, fd_mem 223 (by decide +kernel), fd_mem 54 (by decide +kernel), ⟨by decide +kernel, by decide +kernel⟩, ⟨by decide +kernel, fd_mem 222 (by decide +kernel)⟩⟩
theorem fd_m66 : fx_MF fd_TG fd_cl fd_G fd_y fd_b fd_PC 66 := ⟨by decide +kernel, rfl, fd_mem 228 (by decide +kernel), fd_mem 54 (by decide +kernel), ⟨by decide +kernel, by decide +kernel⟩, ⟨by decide +kernel, fd_mem 227 (by decide +kernel), fd_mem 3 (by decide +kernel), fd_T3, 2, rfl⟩⟩
theorem fd_m67 : fx_MF fd_TG fd_cl fd_G fd_y fd_b fd_PC 67 := ⟨by decide +kernel, rfl, fd_mem 232 (by decide +kernel), fd_mem 54 (by decide +kernel), ⟨by decide +kernel, by decide +kernel⟩, ⟨by decide +kernel, fd_mem 231 (by decide +kernel), fd_mem 4 (by decide +kernel), fd_T3, 2, rfl⟩⟩
theorem fd_m68 : fx_MF fd_TG fd_cl fd_G fd_y fd_b fd_PC 68 := ⟨by decide +kernel, rfl, fd_mem 237 (by decide +kernel), fd_mem 54 (by decide +kernel), ⟨by decide +kernel, by decide +kernel⟩, ⟨by decide +kernel, fd_mem 236 (by decide +kernel), fd_mem 5 (by decide +kernel), fd_T3, 2, rfl⟩⟩
theorem fd_m69 : fx_MF fd_TG fd_cl fd_G fd_y fd_b fd_PC 69 := ⟨by decide +kernel, rfl, fd_mem 267 (by decide +kernel), fd_mem 54 (by decide +kernel), ⟨by decide +kernel, by decide +kernel⟩, ⟨by decide +kernel, fd_mem 265 (by decide +kernel), fd_mem 266 (by decide +kernel), fd_T3, 2, rfl⟩⟩
theorem fd_m70 : fx_MF fd_TG fd_cl fd_G fd_y fd_b fd_PC 70 := ⟨by decide +kernel, rfl, fd_mem 278 (by decide +kernel), fd_mem 54 (by decide +kernel), ⟨by decide +kernel, by decide +kernel⟩, ⟨by decide +kernel, fd_mem 276 (by decide +kernel), fd_mem 277 (by decide +kernel), fd_T3, 2, rfl⟩⟩
theorem fd_m71 : fx_MF fd_TG fd_cl fd_G fd_y fd_b fd_PC 71 := ⟨by decide +kernel, rfl, fd_mem 580 (by decide +kernel), fd_mem 54 (by decide +kernel), ⟨by decide +kernel, by decide +kernel⟩, ⟨by decide +kernel, fd_mem 578 (by decide +kernel), fd_mem 579 (by decide +kernel), fd_T3, 2, rfl⟩⟩
theorem fd_m72 : fx_MF fd_TG fd_cl fd_G fd_y fd_b fd_PC 72 := ⟨by decide +kernel, rfl, fd_mem 632 (by decide +kernel), fd_mem 54 (by decide +kernel), ⟨by decide +kernel, by decide +kernel⟩, ⟨by decide +kernel, fd_mem 631 (by decide +kernel)⟩⟩
theorem fd_m73 : fx_MF fd_TG fd_cl fd_G fd_y fd_b fd_PC 73 := ⟨by decide +kernel, rfl, fd_mem 637 (by decide +kernel), fd_mem 54 (by decide +kernel), ⟨by decide +kernel, by decide +kernel⟩, ⟨by decide +kernel, fd_mem 635 (by decide +kernel), fd_mem 636 (by decide +kernel), fd_T3, 2, rfl⟩⟩
theorem fd_m74 : fx_MF fd_TG fd_cl fd_G fd_y fd_b fd_PC 74 := ⟨by decide +kernel, rfl, fd_mem 664 (by decide +kernel), fd_mem 56 (by decide +kernel), ⟨by decide +kernel, by decide +kernel⟩, ⟨by decide +kernel, fd_mem 662 (by decide +kernel), fd_mem 663 (by decide +kernel), fd_T4, 2, rfl⟩⟩
theorem fd_m75 : fx_MF fd_TG fd_cl fd_G fd_y fd_b fd_PC 75 := ⟨by decide +kernel, rfl, fd_mem 674 (by decide +kernel), fd_mem 56 (by decide +kernel), ⟨by decide +kernel, by decide +kernel⟩, ⟨by decide +kernel, fd_mem 672 (by decide +kernel), fd_mem 673 (by decide +kernel), fd_T4, 2, rfl⟩⟩
theorem fd_m76 : fx_MF fd_TG fd_cl fd_G fd_y fd_b fd_PC 76 := ⟨by decide +kernel, rfl, fd_mem 678 (by decide +kernel), fd_mem 56 (by decide +kernel), ⟨by decide +kernel, by decide +kernel⟩, ⟨by decide +kernel, fd_mem 676 (by decide +kernel), fd_mem 677 (by decide +kernel), fd_T4, 2, rfl⟩⟩
theorem fd_m77 : fx_MF fd_TG fd_cl fd_G fd_y fd_b fd_PC 77 := ⟨by decide +kernel, rfl, fd_mem 245 (by decide +kernel), fd_mem 52 (by decide +kernel), ⟨by decide +kernel, by decide +kernel⟩, ⟨by decide +kernel, fd_mem 243 (by decide +kernel), fd_mem 244 (by decide +kernel), fd_T5, 3, rfl⟩⟩
theorem fd_m78 : fx_MF fd_TG fd_cl fd_G fd_y fd_b fd_PC 78 := ⟨by decide +kernel, rfl, fd_mem 255 (by decide +kernel), fd_mem 52 (by decide +kernel), ⟨by decide +kernel, by decide +kernel⟩, ⟨by decide +kernel, fd_mem 253 (by decide +kernel), fd_mem 254 (by decide +kernel), fd_T5, 3, rfl⟩⟩
theorem fd_m79 : fx_MF fd_TG fd_cl fd_G fd_y fd_b fd_PC 79 := ⟨by decide +kernel, rfl, fd_mem 263 (by decide +kernel), fd_mem 52 (by decide +kernel), ⟨by decide +kernel, by decide +kernel⟩, ⟨by decide +kernel, fd_mem 261 (by decide +kernel), fd_mem 262 (by decide +kernel), fd_T5, 3, rfl⟩⟩
theorem fd_m80 : fx_MF fd_TG fd_cl fd_G fd_y fd_b fd_PC 80 := ⟨by decide +kernel, rfl, fd_mem 271 (by decide +kernel), fd_mem 52 (by decide +kernel), ⟨by decide +kernel, by decide +kernel⟩, ⟨by decide +kernel, fd_mem 269 (by decide +kernel), fd_mem 270 (by decide +kernel), fd_T5, 3, rfl⟩⟩
theorem fd_m81 : fx_MF fd_TG fd_cl fd_G fd_y fd_b fd_PC 81 := ⟨by decide +kernel, rfl, fd_mem 282 (by decide +kernel), fd_mem 52 (by decide +kernel), ⟨by decide +kernel, by decide +kernel⟩, ⟨by decide +kernel, fd_mem 280 (by decide +kernel), fd_mem 281 (by decide +kernel), fd_T5, 3, rfl⟩⟩
theorem fd_m82 : fx_MF fd_TG fd_cl fd_G fd_y fd_b fd_PC 82 := ⟨by decide +kernel, rfl, fd_mem 289 (by decide +kernel), fd_mem 52 (by decide +kernel), ⟨by decide +kernel, by decide +kernel⟩, ⟨by decide +kernel, fd_mem 287 (by decide +kernel), fd_mem 288 (by decide +kernel), fd_T5, 3, rfl⟩⟩
theorem fd_m83 : fx_MF fd_TG fd_cl fd_G fd_y fd_b fd_PC 83 := ⟨by decide +kernel, rfl, fd_mem 293 (by decide +kernel), fd_mem 52 (by decide +kernel), ⟨by decide +kernel, by decide +kernel⟩, ⟨by decide +kernel, fd_mem 291 (by decide +kernel), fd_mem 292 (by decide +kernel), fd_T5, 3, rfl⟩⟩
theorem fd_m84 : fx_MF fd_TG fd_cl fd_G fd_y fd_b fd_PC 84 := ⟨by decide +kernel, rfl, fd_mem 321 (by decide +kernel), fd_mem 52 (by decide +kernel), ⟨by decide +kernel, by decide +kernel⟩, ⟨by decide +kernel, fd_mem 319 (by decide +kernel), fd_mem 320 (by decide +kernel), fd_T5, 3, rfl⟩⟩
theorem fd_m85 : fx_MF fd_TG fd_cl fd_G fd_y fd_b fd_PC 85 := ⟨by decide +kernel, rfl, fd_mem 325 (by decide +kernel), fd_mem 52 (by decide +kernel), ⟨by decide +kernel, by decide +kernel⟩, ⟨by decide +kernel, fd_mem 323 (by decide +kernel), fd_mem 324 (by decide +kernel), fd_T5, 3, rfl⟩⟩
theorem fd_m86 : fx_MF fd_TG fd_cl fd_G fd_y fd_b fd_PC 86 := ⟨by decide +kernel, rfl, fd_mem 337 (by decide +kernel), fd_mem 52 (by decide +kernel), ⟨by decide +kernel, by decide +kernel⟩, ⟨by decide +kernel, fd_mem 335 (by decide +kernel), fd_mem 336 (by decide +kernel), fd_T5, 3, rfl⟩⟩
theorem fd_m87 : fx_MF fd_TG fd_cl fd_G fd_y fd_b fd_PC 87 := ⟨by decide +kernel, rfl, fd_mem 341 (by decide +kernel), fd_mem 52 (by decide +kernel), ⟨by decide +kernel, by decide +kernel⟩, ⟨by decide +kernel, fd_mem 339 (by decide +kernel), fd_mem 340 (by decide +kernel), fd_T5, 3, rfl⟩⟩
theorem fd_m88 : fx_MF fd_TG fd_cl fd_G fd_y fd_b fd_PC 88 := ⟨by decide +kernel, rfl, fd_mem 345 (by decide +kernel), fd_mem 52 (by decide +kernel), ⟨by decide +kernel, by decide +kernel⟩, ⟨by decide +kernel, fd_mem 344 (by decide +kernel), fd_mem 6 (by decide +kernel), fd_T5, 3, rfl⟩⟩
theorem fd_m89 : fx_MF fd_TG fd_cl fd_G fd_y fd_b fd_PC 89 := ⟨by decide +kernel, rfl, fd_mem 352 (by decide +kernel), fd_mem 52 (by decide +kernel), ⟨by decide +kernel, by decide +kernel⟩, ⟨by decide +kernel, fd_mem 350 (by decide +kernel), fd_mem 351 (by decide +kernel), fd_T5, 3, rfl⟩⟩
theorem fd_m90 : fx_MF fd_TG fd_cl fd_G fd_y fd_b fd_PC 90 := ⟨by decide +kernel, rfl, fd_mem 356 (by decide +kernel), fd_mem 52 (by decide +kernel), ⟨by decide +kernel, by decide +kernel⟩, ⟨by decide +kernel, fd_mem 354 (by decide +kernel), fd_mem 355 (by decide +kernel), fd_T5, 3, rfl⟩⟩
theorem fd_m91 : fx_MF fd_TG fd_cl fd_G fd_y fd_b fd_PC 91 := ⟨by decide +kernel, rfl, fd_mem 360 (by decide +kernel), fd_mem 52 (by decide +kernel), ⟨by decide +kernel, by decide +kernel⟩, ⟨by decide +kernel, fd_mem 358 (by decide +kernel), fd_mem 359 (by decide +kernel), fd_T5, 3, rfl⟩⟩
theorem fd_m92 : fx_MF fd_TG fd_cl fd_G fd_y fd_b fd_PC 92 := ⟨by decide +kernel, rfl, fd_mem 371 (by decide +kernel), fd_mem 52 (by decide +kernel), ⟨by decide +kernel, by decide +kernel⟩, ⟨by decide +kernel, fd_mem 369 (by decide +kernel), fd_mem 370 (by decide +kernel), fd_T5, 3, rfl⟩⟩
theorem fd_m93 : fx_MF fd_TG fd_cl fd_G fd_y fd_b fd_PC 93 := ⟨by decide +kernel, rfl, fd_mem 374 (by decide +kernel), fd_mem 52 (by decide +kernel), ⟨by decide +kernel, by decide +kernel⟩, ⟨by decide +kernel, fd_mem 373 (by decide +kernel)⟩⟩
theorem fd_m94 : fx_MF fd_TG fd_cl fd_G fd_y fd_b fd_PC 94 := ⟨by decide +kernel, rfl, fd_mem 382 (by decide +kernel), fd_mem 52 (by decide +kernel), ⟨by decide +kernel, by decide +kernel⟩, ⟨by decide +kernel, fd_mem 380 (by decide +kernel), fd_mem 381 (by decide +kernel), fd_T5, 3, rfl⟩⟩
theorem fd_m95 : fx_MF fd_TG fd_cl fd_G fd_y fd_b fd_PC 95 := ⟨by decide +kernel, rfl, fd_mem 390 (by decide +kernel), fd_mem 52 (by decide +kernel), ⟨by decide +kernel, by decide +kernel⟩, ⟨by decide +kernel, fd_mem 388 (by decide +kernel), fd_mem 389 (by decide +kernel), fd_T5, 3, rfl⟩⟩
theorem fd_m96 : fx_MF fd_TG fd_cl fd_G fd_y fd_b fd_PC 96 := ⟨by decide +kernel, rfl, fd_mem 394 (by decide +kernel), fd_mem 52 (by decide +kernel), ⟨by decide +kernel, by decide +kernel⟩, ⟨by decide +kernel, fd_mem 392 (by decide +kernel), fd_mem 393 (by decide +kernel), fd_T5, 3, rfl⟩⟩
theorem fd_m97 : fx_MF fd_TG fd_cl fd_G fd_y fd_b fd_PC 97 := ⟨by decide +kernel, rfl, fd_mem 402 (by decide +kernel), fd_mem 52 (by decide +kernel), ⟨by decide +kernel, by decide +kernel⟩, ⟨by decide +kernel, fd_mem 400 (by decide +kernel), fd_mem 401 (by decide +kernel), fd_T5, 3, rfl⟩⟩
theorem fd_m98 : fx_MF fd_TG fd_cl fd_G fd_y fd_b fd_PC 98 := ⟨by decide +kernel, rfl, fd_mem 429 (by decide +kernel), fd_mem 52 (by decide +kernel), ⟨by decide +kernel, by decide +kernel⟩, ⟨by decide +kernel, fd_mem 427 (by decide +kernel), fd_mem 428 (by decide +kernel), fd_T5, 3, rfl⟩⟩
theorem fd_m99 : fx_MF fd_TG fd_cl fd_G fd_y fd_b fd_PC 99 := ⟨by decide +kernel, rfl, fd_mem 442 (by decide +kernel), fd_mem 52 (by decide +kernel), ⟨by decide +kernel, by decide +kernel⟩, ⟨by decide +kernel, fd_mem 440 (by decide +kernel), fd_mem 441 (by decide +kernel), fd_T5, 3, rfl⟩⟩
theorem fd_m100 : fx_MF fd_TG fd_cl fd_G fd_y fd_b fd_PC 100 := ⟨by decide +kernel, rfl, fd_mem 455 (by decide +kernel), fd_mem 52 (by decide +kernel), ⟨by decide +kernel, by decide +kernel⟩, ⟨by decide +kernel, fd_mem 453 (by decide +kernel), fd_mem 454 (by decide +kernel), fd_T5, 3, rfl⟩⟩
theorem fd_m101 : fx_MF fd_TG fd_cl fd_G fd_y fd_b fd_PC 101 := ⟨by decide +kernel, rfl, fd_mem 458 (by decide +kernel), fd_mem 52 (by decide +kernel), ⟨by decide +kernel, by decide +kernel⟩, ⟨by decide +kernel, fd_mem 457 (by decide +kernel)⟩⟩
theorem fd_m102 : fx_MF fd_TG fd_cl fd_G fd_y fd_b fd_PC 102 := ⟨by decide +kernel, rfl, fd_mem 461 (by decide +kernel), fd_mem 52 (by decide +kernel), ⟨by decide +kernel, by decide +kernel⟩, ⟨by decide +kernel, fd_mem 460 (by decide +kernel)⟩⟩
theorem fd_m103 : fx_MF fd_TG fd_cl fd_G fd_y fd_b fd_PC 103 := ⟨by decide +kernel, rfl, fd_mem 475 (by decide +kernel), fd_mem 52 (by decide +kernel), ⟨by decide +kernel, by decide +kernel⟩, ⟨by decide +kernel, fd_mem 473 (by decide +kernel), fd_mem 474 (by decide +kernel), fd_T5, 3, rfl⟩⟩
theorem fd_m104 : fx_MF fd_TG fd_cl fd_G fd_y fd_b fd_PC 104 := ⟨by decide +kernel, rfl, fd_mem 480 (by decide +kernel), fd_mem 52 (by decide +kernel), ⟨by decide +kernel, by decide +kernel⟩, ⟨by decide +kernel, fd_mem 478 (by decide +kernel), fd_mem 479 (by decide +kernel), fd_T5, 3, rfl⟩⟩
theorem fd_m105 : fx_MF fd_TG fd_cl fd_G fd_y fd_b fd_PC 105 := ⟨by decide +kernel, rfl, fd_mem 493 (by decide +kernel), fd_mem 52 (by decide +kernel), ⟨by decide +kernel, by decide +kernel⟩, ⟨by decide +kernel, fd_mem 491 (by decide +kernel), fd_mem 492 (by decide +kernel), fd_T5, 3, rfl⟩⟩
theorem fd_m106 : fx_MF fd_TG fd_cl fd_G fd_y fd_b fd_PC 106 := ⟨by decide +kernel, rfl, fd_mem 507 (by decide +kernel), fd_mem 52 (by decide +kernel), ⟨by decide +kernel, by decide +kernel⟩, ⟨by decide +kernel, fd_mem 505 (by decide +kernel), fd_mem 506 (by decide +kernel), fd_T5, 3, rfl⟩⟩
theorem fd_m107 : fx_MF fd_TG fd_cl fd_G fd_y fd_b fd_PC 107 := ⟨by decide +kernel, rfl, fd_mem 515 (by decide +kernel), fd_mem 52 (by decide +kernel), ⟨by decide +kernel, by decide +kernel⟩, ⟨by decide +kernel, fd_mem 513 (by decide +kernel), fd_mem 514 (by decide +kernel), fd_T5, 3, rfl⟩⟩
theorem fd_m108 : fx_MF fd_TG fd_cl fd_G fd_y fd_b fd_PC 108 := ⟨by decide +kernel, rfl, fd_mem 519 (by decide +kernel), fd_mem 52 (by decide +kernel), ⟨by decide +kernel, by decide +kernel⟩, ⟨by decide +kernel, fd_mem 517 (by decide +kernel), fd_mem 518 (by decide +kernel), fd_T5, 3, rfl⟩⟩
theorem fd_m109 : fx_MF fd_TG fd_cl fd_G fd_y fd_b fd_PC 109 := ⟨by decide +kernel, rfl, fd_mem 524 (by decide +kernel), fd_mem 52 (by decide +kernel), ⟨by decide +kernel, by decide +kernel⟩, ⟨by decide +kernel, fd_mem 522 (by decide +kernel), fd_mem 523 (by decide +kernel), fd_T5, 3, rfl⟩⟩
theorem fd_m110 : fx_MF fd_TG fd_cl fd_G fd_y fd_b fd_PC 110 := ⟨by decide +kernel, rfl, fd_mem 529 (by decide +kernel), fd_mem 52 (by decide +kernel), ⟨by decide +kernel, by decide +kernel⟩, ⟨by decide +kernel, fd_mem 527 (by decide +kernel), fd_mem 528 (by decide +kernel), fd_T5, 3, rfl⟩⟩
theorem fd_m111 : fx_MF fd_TG fd_cl fd_G fd_y fd_b fd_PC 111 := ⟨by decide +kernel, rfl, fd_mem 567 (by decide +kernel), fd_mem 52 (by decide +kernel), ⟨by decide +kernel, by decide +kernel⟩, ⟨by decide +kernel, fd_mem 565 (by decide +kernel), fd_mem 566 (by decide +kernel), fd_T5, 3, rfl⟩⟩
theorem fd_m112 : fx_MF fd_TG fd_cl fd_G fd_y fd_b fd_PC 112 := ⟨by decide +kernel, rfl, fd_mem 571 (by decide +kernel), fd_mem 52 (by decide +kernel), ⟨by decide +kernel, by decide +kernel⟩, ⟨by decide +kernel, fd_mem 569 (by decide +kernel), fd_mem 570 (by decide +kernel), fd_T5, 3, rfl⟩⟩
theorem fd_m113 : fx_MF fd_TG fd_cl fd_G fd_y fd_b fd_PC 113 := ⟨by decide +kernel, rfl, fd_mem 575 (by decide +kernel), fd_mem 52 (by decide +kernel), ⟨by decide +kernel, by decide +kernel⟩, ⟨by decide +kernel, fd_mem 573 (by decide +kernel), fd_mem 574 (by decide +kernel), fd_T5, 3, rfl⟩⟩
theorem fd_m114 : fx_MF fd_TG fd_cl fd_G fd_y fd_b fd_PC 114 := ⟨by decide +kernel, rfl, fd_mem 750 (by decide +kernel), fd_mem 57 (by decide +kernel), ⟨by decide +kernel, by decide +kernel⟩, ⟨by decide +kernel, fd_mem 748 (by decide +kernel), fd_mem 749 (by decide +kernel), fd_T6, 20, rfl⟩⟩
theorem fd_m115 : fx_MF fd_TG fd_cl fd_G fd_y fd_b fd_PC 115 := ⟨by decide +kernel, rfl, fd_mem 753 (by decide +kernel), fd_mem 57 (by decide +kernel), ⟨by decide +kernel, by decide +kernel⟩, ⟨by decide +kernel, fd_mem 752 (by decide +kernel)⟩⟩
theorem fd_m116 : fx_MF fd_TG fd_cl fd_G fd_y fd_b fd_PC 116 := ⟨by decide +kernel, rfl, fd_mem 756 (by decide +kernel), fd_mem 57 (by decide +kernel), ⟨by decide +kernel, by decide +kernel⟩, ⟨by decide +kernel, fd_mem 755 (by decide +kernel)⟩⟩
theorem fd_m117 : fx_MF fd_TG fd_cl fd_G fd_y fd_b fd_PC 117 := ⟨by decide +kernel, rfl, fd_mem 759 (by decide +kernel), fd_mem 57 (by decide +kernel), ⟨by decide +kernel, by decide +kernel⟩, ⟨by decide +kernel, fd_mem 758 (by decide +kernel)⟩⟩
theorem fd_m118 : fx_MF fd_TG fd_cl fd_G fd_y fd_b fd_PC 118 := ⟨by decide +kernel, rfl, fd_mem 763 (by decide +kernel), fd_mem 57 (by decide +kernel), ⟨by decide +kernel, by decide +kernel⟩, ⟨by decide +kernel, fd_mem 762 (by decide +kernel), fd_mem 13 (by decide +kernel), fd_T6, 20, rfl⟩⟩
theorem fd_m119 : fx_MF fd_TG fd_cl fd_G fd_y fd_b fd_PC 119 := ⟨by decide +kernel, rfl, fd_mem 767 (by decide +kernel), fd_mem 57 (by decide +kernel), ⟨by decide +kernel, by decide +kernel⟩, ⟨by decide +kernel, fd_mem 766 (by decide +kernel), fd_mem 14 (by decide +kernel), fd_T6, 20, rfl⟩⟩
theorem fd_m120 : fx_MF fd_TG fd_cl fd_G fd_y fd_b fd_PC 120 := ⟨by decide +kernel, rfl, fd_mem 771 (by decide +kernel), fd_mem 57 (by decide +kernel), ⟨by decide +kernel, by decide +kernel⟩, ⟨by decide +kernel, fd_mem 770 (by decide +kernel), fd_mem 15 (by decide +kernel), fd_T6, 20, rfl⟩⟩
theorem fd_m121 : fx_MF fd_TG fd_cl fd_G fd_y fd_b fd_PC 121 := ⟨by decide +kernel, rfl, fd_mem 775 (by decide +kernel), fd_mem 57 (by decide +kernel), ⟨by decide +kernel, by decide +kernel⟩, ⟨by decide +kernel, fd_mem 774 (by decide +kernel), fd_mem 16 (by decide +kernel), fd_T6, 20, rfl⟩⟩
theorem fd_m122 : fx_MF fd_TG fd_cl fd_G fd_y fd_b fd_PC 122 := ⟨by decide +kernel, rfl, fd_mem 779 (by decide +kernel), fd_mem 57 (by decide +kernel), ⟨by decide +kernel, by decide +kernel⟩, ⟨by decide +kernel, fd_mem 777 (by decide +kernel), fd_mem 778 (by decide +kernel), fd_T6, 20, rfl⟩⟩
theorem fd_m123 : fx_MF fd_TG fd_cl fd_G fd_y fd_b fd_PC 123 := ⟨by decide +kernel, rfl, fd_mem 783 (by decide +kernel), fd_mem 57 (by decide +kernel), ⟨by decide +kernel, by decide +kernel⟩, ⟨by decide +kernel, fd_mem 781 (by decide +kernel), fd_mem 782 (by decide +kernel), fd_T6, 20, rfl⟩⟩
theorem fd_m124 : fx_MF fd_TG fd_cl fd_G fd_y fd_b fd_PC 124 := ⟨by decide +kernel, rfl, fd_mem 787 (by decide +kernel), fd_mem 57 (by decide +kernel), ⟨by decide +kernel, by decide +kernel⟩, ⟨by decide +kernel, fd_mem 786 (by decide +kernel), fd_mem 17 (by decide +kernel), fd_T6, 20, rfl⟩⟩
theorem fd_m125 : fx_MF fd_TG fd_cl fd_G fd_y fd_b fd_PC 125 := ⟨by decide +kernel, rfl, fd_mem 791 (by decide +kernel), fd_mem 57 (by decide +kernel), ⟨by decide +kernel, by decide +kernel⟩, ⟨by decide +kernel, fd_mem 789 (by decide +kernel), fd_mem 790 (by decide +kernel), fd_T6, 20, rfl⟩⟩
theorem fd_m126 : fx_MF fd_TG fd_cl fd_G fd_y fd_b fd_PC 126 := ⟨by decide +kernel, rfl, fd_mem 795 (by decide +kernel), fd_mem 57 (by decide +kernel), ⟨by decide +kernel, by decide +kernel⟩, ⟨by decide +kernel, fd_mem 794 (by decide +kernel), fd_mem 18 (by decide +kernel), fd_T6, 20, rfl⟩⟩
theorem fd_m127 : fx_MF fd_TG fd_cl fd_G fd_y fd_b fd_PC 127 := ⟨by decide +kernel, rfl, fd_mem 799 (by decide +kernel), fd_mem 57 (by decide +kernel), ⟨by decide +kernel, by decide +kernel⟩, ⟨by decide +kernel, fd_mem 798 (by decide +kernel), fd_mem 19 (by decide +kernel), fd_T6, 20, rfl⟩⟩
theorem fd_m128 : fx_MF fd_TG fd_cl fd_G fd_y fd_b fd_PC 128 := ⟨by decide +kernel, rfl, fd_mem 802 (by decide +kernel), fd_mem 57 (by decide +kernel), ⟨by decide +kernel, by decide +kernel⟩, ⟨by decide +kernel, fd_mem 801 (by decide +kernel)⟩⟩
theorem fd_m129 : fx_MF fd_TG fd_cl fd_G fd_y fd_b fd_PC 129 := ⟨by decide +kernel, rfl, fd_mem 806 (by decide +kernel), fd_mem 57 (by decide +kernel), ⟨by decide +kernel, by decide +kernel⟩, ⟨by decide +kernel, fd_mem 805 (by decide +kernel), fd_mem 20 (by decide +kernel), fd_T6, 20, rfl⟩⟩
theorem fd_m130 : fx_MF fd_TG fd_cl fd_G fd_y fd_b fd_PC 130 := ⟨by decide +kernel, rfl, fd_mem 810 (by decide +kernel), fd_mem 57 (by decide +kernel), ⟨by decide +kernel, by decide +kernel⟩, ⟨by decide +kernel, fd_mem 809 (by decide +kernel), fd_mem 21 (by decide +kernel), fd_T6, 20, rfl⟩⟩
theorem fd_m131 : fx_MF fd_TG fd_cl fd_G fd_y fd_b fd_PC 131 := ⟨by decide +kernel, rfl, fd_mem 814 (by decide +kernel), fd_mem 57 (by decide +kernel), ⟨by decide +kernel, by decide +kernel⟩, ⟨by decide +kernel, fd_mem 813 (by decide +kernel), fd_mem 22 (by decide +kernel), fd_T6, 20, rfl⟩⟩
theorem fd_m132 : fx_MF fd_TG fd_cl fd_G fd_y fd_b fd_PC 132 := ⟨by decide +kernel, rfl, fd_mem 817 (by decide +kernel), fd_mem 57 (by decide +kernel), ⟨by decide +kernel, by decide +kernel⟩, ⟨by decide +kernel, fd_mem 816 (by decide +kernel)⟩⟩
theorem fd_m133 : fx_MF fd_TG fd_cl fd_G fd_y fd_b fd_PC 133 := ⟨by decide +kernel, rfl, fd_mem 821 (by decide +kernel), fd_mem 57 (by decide +kernel), ⟨by decide +kernel, by decide +kernel⟩, ⟨by decide +kernel, fd_mem 819 (by decide +kernel), fd_mem 820 (by decide +kernel), fd_T6, 20, rfl⟩⟩
theorem fd_m134 : fx_MF fd_TG fd_cl fd_G fd_y fd_b fd_PC 134 := ⟨by decide +kernel, rfl, fd_mem 825 (by decide +kernel), fd_mem 57 (by decide +kernel), ⟨by decide +kernel, by decide +kernel⟩, ⟨by decide +kernel, fd_mem 823 (by decide +kernel), fd_mem 824 (by decide +kernel), fd_T6, 20, rfl⟩⟩
theorem fd_m135 : fx_MF fd_TG fd_cl fd_G fd_y fd_b fd_PC 135 := ⟨by decide +kernel, rfl, fd_mem 829 (by decide +kernel), fd_mem 57 (by decide +kernel), ⟨by decide +kernel, by decide +kernel⟩, ⟨by decide +kernel, fd_mem 828 (by decide +kernel), fd_mem 23 (by decide +kernel), fd_T6, 20, rfl⟩⟩
theorem fd_m136 : fx_MF fd_TG fd_cl fd_G fd_y fd_b fd_PC 136 := ⟨by decide +kernel, rfl, fd_mem 833 (by decide +kernel), fd_mem 57 (by decide +kernel), ⟨by decide +kernel, by decide +kernel⟩, ⟨by decide +kernel, fd_mem 831 (by decide +kernel), fd_mem 832 (by decide +kernel), fd_T6, 20, rfl⟩⟩
theorem fd_m137 : fx_MF fd_TG fd_cl fd_G fd_y fd_b fd_PC 137 := ⟨by decide +kernel, rfl, fd_mem 837 (by decide +kernel), fd_mem 57 (by decide +kernel), ⟨by decide +kernel, by decide +kernel⟩, ⟨by decide +kernel, fd_mem 835 (by decide +kernel), fd_mem 836 (by decide +kernel), fd_T6, 20, rfl⟩⟩
theorem fd_m138 : fx_MF fd_TG fd_cl fd_G fd_y fd_b fd_PC 138 := ⟨by decide +kernel, rfl, fd_mem 841 (by decide +kernel), fd_mem 57 (by decide +kernel), ⟨by decide +kernel, by decide +kernel⟩, ⟨by decide +kernel, fd_mem 840 (by decide +kernel), fd_mem 24 (by decide +kernel), fd_T6, 20, rfl⟩⟩
theorem fd_m139 : fx_MF fd_TG fd_cl fd_G fd_y fd_b fd_PC 139 := ⟨by decide +kernel, rfl, fd_mem 845 (by decide +kernel), fd_mem 57 (by decide +kernel), ⟨by decide +kernel, by decide +kernel⟩, ⟨by decide +kernel, fd_mem 844 (by decide +kernel), fd_mem 25 (by decide +kernel), fd_T6, 20, rfl⟩⟩
theorem fd_m140 : fx_MF fd_TG fd_cl fd_G fd_y fd_b fd_PC 140 := ⟨by decide +kernel, rfl, fd_mem 849 (by decide +kernel), fd_mem 57 (by decide +kernel), ⟨by decide +kernel, by decide +kernel⟩, ⟨by decide +kernel, fd_mem 848 (by decide +kernel), fd_mem 26 (by decide +kernel), fd_T6, 20, rfl⟩⟩
theorem fd_m141 : fx_MF fd_TG fd_cl fd_G fd_y fd_b fd_PC 141 := ⟨by decide +kernel, rfl, fd_mem 853 (by decide +kernel), fd_mem 57 (by decide +kernel), ⟨by decide +kernel, by decide +kernel⟩, ⟨by decide +kernel, fd_mem 852 (by decide +kernel), fd_mem 27 (by decide +kernel), fd_T6, 20, rfl⟩⟩
theorem fd_m142 : fx_MF fd_TG fd_cl fd_G fd_y fd_b fd_PC 142 := ⟨by decide +kernel, rfl, fd_mem 857 (by decide +kernel), fd_mem 57 (by decide +kernel), ⟨by decide +kernel, by decide +kernel⟩, ⟨by decide +kernel, fd_mem 856 (by decide +kernel), fd_mem 28 (by decide +kernel), fd_T6, 20, rfl⟩⟩
theorem fd_m143 : fx_MF fd_TG fd_cl fd_G fd_y fd_b fd_PC 143 := ⟨by decide +kernel, rfl, fd_mem 861 (by decide +kernel), fd_mem 57 (by decide +kernel), ⟨by decide +kernel, by decide +kernel⟩, ⟨by decide +kernel, fd_mem 860 (by decide +kernel), fd_mem 29 (by decide +kernel), fd_T6, 20, rfl⟩⟩
theorem fd_m144 : fx_MF fd_TG fd_cl fd_G fd_y fd_b fd_PC 144 := ⟨by decide +kernel, rfl, fd_mem 865 (by decide +kernel), fd_mem 57 (by decide +kernel), ⟨by decide +kernel, by decide +kernel⟩, ⟨by decide +kernel, fd_mem 864 (by decide +kernel), fd_mem 30 (by decide +kernel), fd_T6, 20, rfl⟩⟩
theorem fd_m145 : fx_MF fd_TG fd_cl fd_G fd_y fd_b fd_PC 145 := ⟨by decide +kernel, rfl, fd_mem 869 (by decide +kernel), fd_mem 57 (by decide +kernel), ⟨by decide +kernel, by decide +kernel⟩, ⟨by decide +kernel, fd_mem 868 (by decide +kernel), fd_mem 31 (by decide +kernel), fd_T6, 20, rfl⟩⟩
theorem fd_m146 : fx_MF fd_TG fd_cl fd_G fd_y fd_b fd_PC 146 := ⟨by decide +kernel, rfl, fd_mem 873 (by decide +kernel), fd_mem 57 (by decide +kernel), ⟨by decide +kernel, by decide +kernel⟩, ⟨by decide +kernel, fd_mem 872 (by decide +kernel), fd_mem 32 (by decide +kernel), fd_T6, 20, rfl⟩⟩
theorem fd_m147 : fx_MF fd_TG fd_cl fd_G fd_y fd_b fd_PC 147 := ⟨by decide +kernel, rfl, fd_mem 877 (by decide +kernel), fd_mem 57 (by decide +kernel), ⟨by decide +kernel, by decide +kernel⟩, ⟨by decide +kernel, fd_mem 876 (by decide +kernel), fd_mem 33 (by decide +kernel), fd_T6, 20, rfl⟩⟩
theorem fd_m148 : fx_MF fd_TG fd_cl fd_G fd_y fd_b fd_PC 148 := ⟨by decide +kernel, rfl, fd_mem 881 (by decide +kernel), fd_mem 57 (by decide +kernel), ⟨by decide +kernel, by decide +kernel⟩, ⟨by decide +kernel, fd_mem 879 (by decide +kernel), fd_mem 880 (by decide +kernel), fd_T6, 20, rfl⟩⟩
theorem fd_m149 : fx_MF fd_TG fd_cl fd_G fd_y fd_b fd_PC 149 := ⟨by decide +kernel, rfl, fd_mem 885 (by decide +kernel), fd_mem 57 (by decide +kernel), ⟨by decide +kernel, by decide +kernel⟩, ⟨by decide +kernel, fd_mem 884 (by decide +kernel), fd_mem 34 (by decide +kernel), fd_T6, 20, rfl⟩⟩
theorem fd_m150 : fx_MF fd_TG fd_cl fd_G fd_y fd_b fd_PC 150 := ⟨by decide +kernel, rfl, fd_mem 889 (by decide +kernel), fd_mem 57 (by decide +kernel), ⟨by decide +kernel, by decide +kernel⟩, ⟨by decide +kernel, fd_mem 888 (by decide +kernel), fd_mem 35 (by decide +kernel), fd_T6, 20, rfl⟩⟩
theorem fd_m151 : fx_MF fd_TG fd_cl fd_G fd_y fd_b fd_PC 151 := ⟨by decide +kernel, rfl, fd_mem 893 (by decide +kernel), fd_mem 57 (by decide +kernel), ⟨by decide +kernel, by decide +kernel⟩, ⟨by decide +kernel, fd_mem 892 (by decide +kernel), fd_mem 36 (by decide +kernel), fd_T6, 20, rfl⟩⟩
theorem fd_m152 : fx_MF fd_TG fd_cl fd_G fd_y fd_b fd_PC 152 := ⟨by decide +kernel, rfl, fd_mem 897 (by decide +kernel), fd_mem 57 (by decide +kernel), ⟨by decide +kernel, by decide +kernel⟩, ⟨by decide +kernel, fd_mem 896 (by decide +kernel), fd_mem 37 (by decide +kernel), fd_T6, 20, rfl⟩⟩
theorem fd_m153 : fx_MF fd_TG fd_cl fd_G fd_y fd_b fd_PC 153 := ⟨by decide +kernel, rfl, fd_mem 901 (by decide +kernel), fd_mem 57 (by decide +kernel), ⟨by decide +kernel, by decide +kernel⟩, ⟨by decide +kernel, fd_mem 900 (by decide +kernel), fd_mem 38 (by decide +kernel), fd_T6, 20, rfl⟩⟩
theorem fd_m154 : fx_MF fd_TG fd_cl fd_G fd_y fd_b fd_PC 154 := ⟨by decide +kernel, rfl, fd_mem 904 (by decide +kernel), fd_mem 57 (by decide +kernel), ⟨by decide +kernel, by decide +kernel⟩, ⟨by decide +kernel, fd_mem 903 (by decide +kernel)⟩⟩
theorem fd_m155 : fx_MF fd_TG fd_cl fd_G fd_y fd_b fd_PC 155 := ⟨by decide +kernel, rfl, fd_mem 907 (by decide +kernel), fd_mem 57 (by decide +kernel), ⟨by decide +kernel, by decide +kernel⟩, ⟨by decide +kernel, fd_mem 906 (by decide +kernel)⟩⟩
theorem fd_m156 : fx_MF fd_TG fd_cl fd_G fd_y fd_b fd_PC 156 := ⟨by decide +kernel, rfl, fd_mem 911 (by decide +kernel), fd_mem 57 (by decide +kernel), ⟨by decide +kernel, by decide +kernel⟩, ⟨by decide +kernel, fd_mem 909 (by decide +kernel), fd_mem 910 (by decide +kernel), fd_T6, 20, rfl⟩⟩
theorem fd_m157 : fx_MF fd_TG fd_cl fd_G fd_y fd_b fd_PC 157 := ⟨by decide +kernel, rfl, fd_mem 915 (by decide +kernel), fd_mem 57 (by decide +kernel), ⟨by decide +kernel, by decide +kernel⟩, ⟨by decide +kernel, fd_mem 914 (by decide +kernel), fd_mem 39 (by decide +kernel), fd_T6, 20, rfl⟩⟩
theorem fd_m158 : fx_MF fd_TG fd_cl fd_G fd_y fd_b fd_PC 158 := ⟨by decide +kernel, rfl, fd_mem 919 (by decide +kernel), fd_mem 57 (by decide +kernel), ⟨by decide +kernel, by decide +kernel⟩, ⟨by decide +kernel, fd_mem 918 (by decide +kernel), fd_mem 40 (by decide +kernel), fd_T6, 20, rfl⟩⟩
theorem fd_m159 : fx_MF fd_TG fd_cl fd_G fd_y fd_b fd_PC 159 := ⟨by decide +kernel, rfl, fd_mem 923 (by decide +kernel), fd_mem 57 (by decide +kernel), ⟨by decide +kernel, by decide +kernel⟩, ⟨by decide +kernel, fd_mem 922 (by decide +kernel), fd_mem 41 (by decide +kernel), fd_T6, 20, rfl⟩⟩
theorem fd_m160 : fx_MF fd_TG fd_cl fd_G fd_y fd_b fd_PC 160 := ⟨by decide +kernel, rfl, fd_mem 927 (by decide +kernel), fd_mem 57 (by decide +kernel), ⟨by decide +kernel, by decide +kernel⟩, ⟨by decide +kernel, fd_mem 926 (by decide +kernel), fd_mem 42 (by decide +kernel), fd_T6, 20, rfl⟩⟩
theorem fd_m161 : fx_MF fd_TG fd_cl fd_G fd_y fd_b fd_PC 161 := ⟨by decide +kernel, rfl, fd_mem 931 (by decide +kernel), fd_mem 57 (by decide +kernel), ⟨by decide +kernel, by decide +kernel⟩, ⟨by decide +kernel, fd_mem 929 (by decide +kernel), fd_mem 930 (by decide +kernel), fd_T6, 20, rfl⟩⟩
theorem fd_m162 : fx_MF fd_TG fd_cl fd_G fd_y fd_b fd_PC 162 := ⟨by decide +kernel, rfl, fd_mem 935 (by decide +kernel), fd_mem 57 (by decide +kernel), ⟨by decide +kernel, by decide +kernel⟩, ⟨by decide +kernel, fd_mem 934 (by decide +kernel), fd_mem 43 (by decide +kernel), fd_T6, 20, rfl⟩⟩
theorem fd_m163 : fx_MF fd_TG fd_cl fd_G fd_y fd_b fd_PC 163 := ⟨by decide +kernel, rfl, fd_mem 939 (by decide +kernel), fd_mem 57 (by decide +kernel), ⟨by decide +kernel, by decide +kernel⟩, ⟨by decide +kernel, fd_mem 937 (by decide +kernel), fd_mem 938 (by decide +kernel), fd_T6, 20, rfl⟩⟩
theorem fd_m164 : fx_MF fd_TG fd_cl fd_G fd_y fd_b fd_PC 164 := ⟨by decide +kernel, rfl, fd_mem 943 (by decide +kernel), fd_mem 57 (by decide +kernel), ⟨by decide +kernel, by decide +kernel⟩, ⟨by decide +kernel, fd_mem 942 (by decide +kernel), fd_mem 44 (by decide +kernel), fd_T6, 20, rfl⟩⟩
theorem fd_m165 : fx_MF fd_TG fd_cl fd_G fd_y fd_b fd_PC 165 := ⟨by decide +kernel, rfl, fd_mem 946 (by decide +kernel), fd_mem 57 (by decide +kernel), ⟨by decide +kernel, by decide +kernel⟩, ⟨by decide +kernel, fd_mem 945 (by decide +kernel)⟩⟩
theorem fd_m166 : fx_MF fd_TG fd_cl fd_G fd_y fd_b fd_PC 166 := ⟨by decide +kernel, rfl, fd_mem 950 (by decide +kernel), fd_mem 57 (by decide +kernel), ⟨by decide +kernel, by decide +kernel⟩, ⟨by decide +kernel, fd_mem 948 (by decide +kernel), fd_mem 949 (by decide +kernel), fd_T6, 20, rfl⟩⟩
theorem fd_m167 : fx_MF fd_TG fd_cl fd_G fd_y fd_b fd_PC 167 := ⟨by decide +kernel, rfl, fd_mem 954 (by decide +kernel), fd_mem 57 (by decide +kernel), ⟨by decide +kernel, by decide +kernel⟩, ⟨by decide +kernel, fd_mem 953 (by decide +kernel), fd_mem 45 (by decide +kernel), fd_T6, 20, rfl⟩⟩
theorem fd_m168 : fx_MF fd_TG fd_cl fd_G fd_y fd_b fd_PC 168 := ⟨by decide +kernel, rfl, fd_mem 958 (by decide +kernel), fd_mem 57 (by decide +kernel), ⟨by decide +kernel, by decide +kernel⟩, ⟨by decide +kernel, fd_mem 956 (by decide +kernel), fd_mem 957 (by decide +kernel), fd_T6, 20, rfl⟩⟩
theorem fd_m169 : fx_MF fd_TG fd_cl fd_G fd_y fd_b fd_PC 169 := ⟨by decide +kernel, rfl, fd_mem 962 (by decide +kernel), fd_mem 57 (by decide +kernel), ⟨by decide +kernel, by decide +kernel⟩, ⟨by decide +kernel, fd_mem 961 (by decide +kernel), fd_mem 46 (by decide +kernel), fd_T6, 20, rfl⟩⟩
theorem fd_m170 : fx_MF fd_TG fd_cl fd_G fd_y fd_b fd_PC 170 := ⟨by decide +kernel, rfl, fd_mem 966 (by decide +kernel), fd_mem 57 (by decide +kernel), ⟨by decide +kernel, by decide +kernel⟩, ⟨by decide +kernel, fd_mem 965 (by decide +kernel), fd_mem 47 (by decide +kernel), fd_T6, 20, rfl⟩⟩
theorem fd_m171 : fx_MF fd_TG fd_cl fd_G fd_y fd_b fd_PC 171 := ⟨by decide +kernel, rfl, fd_mem 970 (by decide +kernel), fd_mem 57 (by decide +kernel), ⟨by decide +kernel, by decide +kernel⟩, ⟨by decide +kernel, fd_mem 968 (by decide +kernel), fd_mem 969 (by decide +kernel), fd_T6, 20, rfl⟩⟩
theorem fd_m172 : fx_MF fd_TG fd_cl fd_G fd_y fd_b fd_PC 172 := ⟨by decide +kernel, rfl, fd_mem 974 (by decide +kernel), fd_mem 57 (by decide +kernel), ⟨by decide +kernel, by decide +kernel⟩, ⟨by decide +kernel, fd_mem 973 (by decide +kernel), fd_mem 48 (by decide +kernel), fd_T6, 20, rfl⟩⟩
theorem fd_m173 : fx_MF fd_TG fd_cl fd_G fd_y fd_b fd_PC 173 := ⟨by decide +kernel, rfl, fd_mem 978 (by decide +kernel), fd_mem 57 (by decide +kernel), ⟨by decide +kernel, by decide +kernel⟩, ⟨by decide +kernel, fd_mem 977 (by decide +kernel), fd_mem 49 (by decide +kernel), fd_T6, 20, rfl⟩⟩
theorem fd_m174 : fx_MF fd_TG fd_cl fd_G fd_y fd_b fd_PC 174 := ⟨by decide +kernel, rfl, fd_mem 982 (by decide +kernel), fd_mem 57 (by decide +kernel), ⟨by decide +kernel, by decide +kernel⟩, ⟨by decide +kernel, fd_mem 980 (by decide +kernel), fd_mem 981 (by decide +kernel), fd_T6, 20, rfl⟩⟩
theorem fd_m175 : fx_MF fd_TG fd_cl fd_G fd_y fd_b fd_PC 175 := ⟨by decide +kernel, rfl, fd_mem 986 (by decide +kernel), fd_mem 57 (by decide +kernel), ⟨by decide +kernel, by decide +kernel⟩, ⟨by decide +kernel, fd_mem 984 (by decide +kernel), fd_mem 985 (by decide +kernel), fd_T6, 20, rfl⟩⟩
theorem fd_m176 : fx_MF fd_TG fd_cl fd_G fd_y fd_b fd_PC 176 := ⟨by decide +kernel, rfl, fd_mem 990 (by decide +kernel), fd_mem 57 (by decide +kernel), ⟨by decide +kernel, by decide +kernel⟩, ⟨by decide +kernel, fd_mem 988 (by decide +kernel), fd_mem 989 (by decide +kernel), fd_T6, 20, rfl⟩⟩
theorem fd_m177 : fx_MF fd_TG fd_cl fd_G fd_y fd_b fd_PC 177 := ⟨by decide +kernel, rfl, fd_mem 997 (by decide +kernel), fd_mem 57 (by decide +kernel), ⟨by decide +kernel, by decide +kernel⟩, ⟨by decide +kernel, fd_mem 995 (by decide +kernel), fd_mem 996 (by decide +kernel), fd_T6, 20, rfl⟩⟩
theorem fd_m178 : fx_MF fd_TG fd_cl fd_G fd_y fd_b fd_PC 178 := ⟨by decide +kernel, rfl, fd_mem 1001 (by decide +kernel), fd_mem 57 (by decide +kernel), ⟨by decide +kernel, by decide +kernel⟩, ⟨by decide +kernel, fd_mem 999 (by decide +kernel), fd_mem 1000 (by decide +kernel), fd_T6, 20, rfl⟩⟩
theorem fd_m179 : fx_MF fd_TG fd_cl fd_G fd_y fd_b fd_PC 179 := ⟨by decide +kernel, rfl, fd_mem 1005 (by decide +kernel), fd_mem 57 (by decide +kernel), ⟨by decide +kernel, by decide +kernel⟩, ⟨by decide +kernel, fd_mem 1003 (by decide +kernel), fd_mem 1004 (by decide +kernel), fd_T6, 20, rfl⟩⟩
theorem fd_m180 : fx_MF fd_TG fd_cl fd_G fd_y fd_b fd_PC 180 := ⟨by decide +kernel, rfl, fd_mem 1009 (by decide +kernel), fd_mem 57 (by decide +kernel), ⟨by decide +kernel, by decide +kernel⟩, ⟨by decide +kernel, fd_mem 1007 (by decide +kernel), fd_mem 1008 (by decide +kernel), fd_T6, 20, rfl⟩⟩
theorem fd_m181 : fx_MF fd_TG fd_cl fd_G fd_y fd_b fd_PC 181 := ⟨by decide +kernel, rfl, fd_mem 1013 (by decide +kernel), fd_mem 57 (by decide +kernel), ⟨by decide +kernel, by decide +kernel⟩, ⟨by decide +kernel, fd_mem 1011 (by decide +kernel), fd_mem 1012 (by decide +kernel), fd_T6, 20, rfl⟩⟩
theorem fd_m182 : fx_MF fd_TG fd_cl fd_G fd_y fd_b fd_PC 182 := ⟨by decide +kernel, rfl, fd_mem 299 (by decide +kernel), fd_mem 60 (by decide +kernel), ⟨by decide +kernel, by decide +kernel⟩, ⟨by decide +kernel, fd_mem 298 (by decide +kernel)⟩⟩
theorem fd_m183 : fx_MF fd_TG fd_cl fd_G fd_y fd_b fd_PC 183 := ⟨by decide +kernel, rfl, fd_mem 413 (by decide +kernel), fd_mem 61 (by decide +kernel), ⟨by decide +kernel, by decide +kernel⟩, ⟨by decide +kernel, fd_mem 412 (by decide +kernel)⟩⟩
theorem fd_x0_1 : ∀ q ∈ fd_CT0, Jvm.Cond.constant "FoldedStrips" q.1 (Int32.ofInt q.2) ∈ fd_TG := fun _ h => absurd h List.not_mem_nil
theorem fd_x0_2 : ∀ q ∈ fd_CL0, Jvm.Cond.constantLong "FoldedStrips" q.1 (Int64.ofInt q.2) ∈ fd_TG := fun _ h => absurd h List.not_mem_nil
theorem fd_x0_3 : ∀ q ∈ fd_FT0, ∃ C T N, fd_cl[q.2.1]? = some (C, T, N) ∧ q.2.2 < N ∧ Jvm.Cond.fieldLink "FoldedStrips" q.1 (T q.2.2).1 (T q.2.2).2.1 (T q.2.2).2.2.1 ∈ fd_TG := List.forall_mem_cons.mpr ⟨⟨fd_R0, fd_T0, 6, rfl, by decide, fd_mem 170 (by decide +kernel)⟩, List.forall_mem_cons.mpr ⟨⟨fd_R0, fd_T0, 6, rfl, by decide, fd_mem 171 (by decide +kernel)⟩, List.forall_mem_cons.mpr ⟨⟨fd_R0, fd_T0, 6, rfl, by decide, fd_mem 167 (by decide +kernel)⟩, List.forall_mem_cons.mpr ⟨⟨fd_R0, fd_T0, 6, rfl, by decide, fd_mem 169 (by decide +kernel)⟩, List.forall_mem_cons.mpr ⟨⟨fd_R0, fd_T0, 6, rfl, by decide, fd_mem 168 (by decide +kernel)⟩, List.forall_mem_cons.mpr ⟨⟨fd_R0, fd_T0, 6, rfl, by decide, fd_mem 172 (by decide +kernel)⟩, fun _ h => absurd h List.not_mem_nil⟩⟩⟩⟩⟩⟩
theorem fd_x0_4 : ∀ q ∈ fd_PT0, ∃ C T N, fd_cl[q.2.1]? = some (C, T, N) ∧ q.2.2 < N ∧ Jvm.Cond.fieldLink "FoldedStrips" q.1 (T q.2.2).1 (T q.2.2).2.1 (T q.2.2).2.2.1 ∈ fd_TG ∧ (T q.2.2).2.2.2 = false ∧ parseFieldDescriptor (T q.2.2).2.2.1 = some .int := fun _ h => absurd h List.not_mem_nil
theorem fd_x0_5 : ∀ q ∈ fd_LT0, q.2 = 1000000 → Jvm.Cond.methodLink "FoldedStrips" q.1 arraycopyName ∈ fd_TG ∧ Jvm.Cond.native arraycopyName ∈ fd_TG ∧ Jvm.Cond.static arraycopyName ∈ fd_TG ∧ Jvm.Cond.initialized "java/lang/System" ∈ fd_TG := List.forall_mem_cons.mpr ⟨fun h => absurd h (by decide), List.forall_mem_cons.mpr ⟨fun h => absurd h (by decide), List.forall_mem_cons.mpr ⟨fun h => absurd h (by decide), List.forall_mem_cons.mpr ⟨fun h => absurd h (by decide), List.forall_mem_cons.mpr ⟨fun h => absurd h (by decide), List.forall_mem_cons.mpr ⟨fun h => absurd h (by decide), List.forall_mem_cons.mpr ⟨fun h => absurd h (by decide), List.forall_mem_cons.mpr ⟨fun h => absurd h (by decide), List.forall_mem_cons.mpr ⟨fun h => absurd h (by decide), List.forall_mem_cons.mpr ⟨fun h => absurd h (by decide), List.forall_mem_cons.mpr ⟨fun h => absurd h (by decide), List.forall_mem_cons.mpr ⟨fun h => absurd h (by decide), List.forall_mem_cons.mpr ⟨fun h => absurd h (by decide), List.forall_mem_cons.mpr ⟨fun h => absurd h (by decide), List.forall_mem_cons.mpr ⟨fun h => absurd h (by decide), List.forall_mem_cons.mpr ⟨fun h => absurd h (by decide), List.forall_mem_cons.mpr ⟨fun h => absurd h (by decide), List.forall_mem_cons.mpr ⟨fun h => absurd h (by decide), List.forall_mem_cons.mpr ⟨fun h => absurd h (by decide), List.forall_mem_cons.mpr ⟨fun h => absurd h (by decide), List.forall_mem_cons.mpr ⟨fun h => absurd h (by decide), List.forall_mem_cons.mpr ⟨fun h => absurd h (by decide), List.forall_mem_cons.mpr ⟨fun h => absurd h (by decide), List.forall_mem_cons.mpr ⟨fun h => absurd h (by decide), List.forall_mem_cons.mpr ⟨fun h => absurd h (by decide), List.forall_mem_cons.mpr ⟨fun h => absurd h (by decide), List.forall_mem_cons.mpr ⟨fun h => absurd h (by decide), List.forall_mem_cons.mpr ⟨fun h => absurd h (by decide), List.forall_mem_cons.mpr ⟨fun h => absurd h (by decide), List.forall_mem_cons.mpr ⟨fun h => absurd h (by decide), List.forall_mem_cons.mpr ⟨fun h => absurd h (by decide), List.forall_mem_cons.mpr ⟨fun h => absurd h (by decide), List.forall_mem_cons.mpr ⟨fun h => absurd h (by decide), List.forall_mem_cons.mpr ⟨fun h => absurd h (by decide), List.forall_mem_cons.mpr ⟨fun h => absurd h (by decide), List.forall_mem_cons.mpr ⟨fun h => absurd h (by decide), List.forall_mem_cons.mpr ⟨fun h => absurd h (by decide), List.forall_mem_cons.mpr ⟨fun h => absurd h (by decide), List.forall_mem_cons.mpr ⟨fun h => absurd h (by decide), List.forall_mem_cons.mpr ⟨fun h => absurd h (by decide), List.forall_mem_cons.mpr ⟨fun h => absurd h (by decide), List.forall_mem_cons.mpr ⟨fun h => absurd h (by decide), List.forall_mem_cons.mpr ⟨fun h => absurd h (by decide), List.forall_mem_cons.mpr ⟨fun h => absurd h (by decide), List.forall_mem_cons.mpr ⟨fun h => absurd h (by decide), List.forall_mem_cons.mpr ⟨fun h => absurd h (by decide), List.forall_mem_cons.mpr ⟨fun h => absurd h (by decide), List.forall_mem_cons.mpr ⟨fun h => absurd h (by decide), List.forall_mem_cons.mpr ⟨fun h => absurd h (by decide), List.forall_mem_cons.mpr ⟨fun h => absurd h (by decide), List.forall_mem_cons.mpr ⟨fun h => absurd h (by decide), List.forall_mem_cons.mpr ⟨fun h => absurd h (by decide), List.forall_mem_cons.mpr ⟨fun h => absurd h (by decide), List.forall_mem_cons.mpr ⟨fun h => absurd h (by decide), List.forall_mem_cons.mpr ⟨fun h => absurd h (by decide), List.forall_mem_cons.mpr ⟨fun h => absurd h (by decide), List.forall_mem_cons.mpr ⟨fun h => absurd h (by decide), List.forall_mem_cons.mpr ⟨fun h => absurd h (by decide), List.forall_mem_cons.mpr ⟨fun h => absurd h (by decide), List.forall_mem_cons.mpr ⟨fun h => absurd h (by decide), List.forall_mem_cons.mpr ⟨fun h => absurd h (by decide), List.forall_mem_cons.mpr ⟨fun h => absurd h (by decide), List.forall_mem_cons.mpr ⟨fun h => absurd h (by decide), List.forall_mem_cons.mpr ⟨fun h => absurd h (by decide), List.forall_mem_cons.mpr ⟨fun h => absurd h (by decide), List.forall_mem_cons.mpr ⟨fun h => absurd h (by decide), List.forall_mem_cons.mpr ⟨fun h => absurd h (by decide), List.forall_mem_cons.mpr ⟨fun h => absurd h (by decide), List.forall_mem_cons.mpr ⟨fun h => absurd h (by decide), List.forall_mem_cons.mpr ⟨fun h => absurd h (by decide), fun _ h => absurd h List.not_mem_nil⟩⟩⟩⟩⟩⟩⟩⟩⟩⟩⟩⟩⟩⟩⟩⟩⟩⟩⟩⟩⟩⟩⟩⟩⟩⟩⟩⟩⟩⟩⟩⟩⟩⟩⟩⟩⟩⟩⟩⟩⟩⟩⟩⟩⟩⟩⟩⟩⟩⟩⟩⟩⟩⟩⟩⟩⟩⟩⟩⟩⟩⟩⟩⟩⟩⟩⟩⟩⟩⟩
theorem fd_x0_6 : ∀ q ∈ fd_LT0, q.2 = 1000001 → Jvm.Cond.methodLink "FoldedStrips" q.1 Lib.Math.max.name ∈ fd_TG ∧ Jvm.Cond.static Lib.Math.max.name ∈ fd_TG ∧ Jvm.Cond.initialized "java/lang/Math" ∈ fd_TG ∧ Jvm.Cond.code Lib.Math.max.name Lib.Math.max.code 2 (some .int) ∈ fd_TG := List.forall_mem_cons.mpr ⟨fun h => absurd h (by decide), List.forall_mem_cons.mpr ⟨fun h => absurd h (by decide), List.forall_mem_cons.mpr ⟨fun h => absurd h (by decide), List.forall_mem_cons.mpr ⟨fun h => absurd h (by decide), List.forall_mem_cons.mpr ⟨fun h => absurd h (by decide), List.forall_mem_cons.mpr ⟨fun h => absurd h (by decide), List.forall_mem_cons.mpr ⟨fun h => absurd h (by decide), List.forall_mem_cons.mpr ⟨fun h => absurd h (by decide), List.forall_mem_cons.mpr ⟨fun h => absurd h (by decide), List.forall_mem_cons.mpr ⟨fun h => absurd h (by decide), List.forall_mem_cons.mpr ⟨fun h => absurd h (by decide), List.forall_mem_cons.mpr ⟨fun h => absurd h (by decide), List.forall_mem_cons.mpr ⟨fun h => absurd h (by decide), List.forall_mem_cons.mpr ⟨fun h => absurd h (by decide), List.forall_mem_cons.mpr ⟨fun h => absurd h (by decide), List.forall_mem_cons.mpr ⟨fun h => absurd h (by decide), List.forall_mem_cons.mpr ⟨fun h => absurd h (by decide), List.forall_mem_cons.mpr ⟨fun h => absurd h (by decide), List.forall_mem_cons.mpr ⟨fun h => absurd h (by decide), List.forall_mem_cons.mpr ⟨fun h => absurd h (by decide), List.forall_mem_cons.mpr ⟨fun h => absurd h (by decide), List.forall_mem_cons.mpr ⟨fun h => absurd h (by decide), List.forall_mem_cons.mpr ⟨fun h => absurd h (by decide), List.forall_mem_cons.mpr ⟨fun h => absurd h (by decide), List.forall_mem_cons.mpr ⟨fun h => absurd h (by decide), List.forall_mem_cons.mpr ⟨fun h => absurd h (by decide), List.forall_mem_cons.mpr ⟨fun h => absurd h (by decide), List.forall_mem_cons.mpr ⟨fun h => absurd h (by decide), List.forall_mem_cons.mpr ⟨fun h => absurd h (by decide), List.forall_mem_cons.mpr ⟨fun h => absurd h (by decide), List.forall_mem_cons.mpr ⟨fun h => absurd h (by decide), List.forall_mem_cons.mpr ⟨fun h => absurd h (by decide), List.forall_mem_cons.mpr ⟨fun h => absurd h (by decide), List.forall_mem_cons.mpr ⟨fun h => absurd h (by decide), List.forall_mem_cons.mpr ⟨fun h => absurd h (by decide), List.forall_mem_cons.mpr ⟨fun h => absurd h (by decide), List.forall_mem_cons.mpr ⟨fun h => absurd h (by decide), List.forall_mem_cons.mpr ⟨fun h => absurd h (by decide), List.forall_mem_cons.mpr ⟨fun h => absurd h (by decide), List.forall_mem_cons.mpr ⟨fun h => absurd h (by decide), List.forall_mem_cons.mpr ⟨fun h => absurd h (by decide), List.forall_mem_cons.mpr ⟨fun h => absurd h (by decide), List.forall_mem_cons.mpr ⟨fun h => absurd h (by decide), List.forall_mem_cons.mpr ⟨fun h => absurd h (by decide), List.forall_mem_cons.mpr ⟨fun h => absurd h (by decide), List.forall_mem_cons.mpr ⟨fun h => absurd h (by decide), List.forall_mem_cons.mpr ⟨fun h => absurd h (by decide), List.forall_mem_cons.mpr ⟨fun h => absurd h (by decide), List.forall_mem_cons.mpr ⟨fun h => absurd h (by decide), List.forall_mem_cons.mpr ⟨fun h => absurd h (by decide), List.forall_mem_cons.mpr ⟨fun h => absurd h (by decide), List.forall_mem_cons.mpr ⟨fun h => absurd h (by decide), List.forall_mem_cons.mpr ⟨fun h => absurd h (by decide), List.forall_mem_cons.mpr ⟨fun h => absurd h (by decide), List.forall_mem_cons.mpr ⟨fun h => absurd h (by decide), List.forall_mem_cons.mpr ⟨fun h => absurd h (by decide), List.forall_mem_cons.mpr ⟨fun h => absurd h (by decide), List.forall_mem_cons.mpr ⟨fun h => absurd h (by decide), List.forall_mem_cons.mpr ⟨fun h => absurd h (by decide), List.forall_mem_cons.mpr ⟨fun h => absurd h (by decide), List.forall_mem_cons.mpr ⟨fun h => absurd h (by decide), List.forall_mem_cons.mpr ⟨fun h => absurd h (by decide), List.forall_mem_cons.mpr ⟨fun h => absurd h (by decide), List.forall_mem_cons.mpr ⟨fun h => absurd h (by decide), List.forall_mem_cons.mpr ⟨fun h => absurd h (by decide), List.forall_mem_cons.mpr ⟨fun h => absurd h (by decide), List.forall_mem_cons.mpr ⟨fun h => absurd h (by decide), List.forall_mem_cons.mpr ⟨fun h => absurd h (by decide), List.forall_mem_cons.mpr ⟨fun h => absurd h (by decide), List.forall_mem_cons.mpr ⟨fun h => absurd h (by decide), fun _ h => absurd h List.not_mem_nil⟩⟩⟩⟩⟩⟩⟩⟩⟩⟩⟩⟩⟩⟩⟩⟩⟩⟩⟩⟩⟩⟩⟩⟩⟩⟩⟩⟩⟩⟩⟩⟩⟩⟩⟩⟩⟩⟩⟩⟩⟩⟩⟩⟩⟩⟩⟩⟩⟩⟩⟩⟩⟩⟩⟩⟩⟩⟩⟩⟩⟩⟩⟩⟩⟩⟩⟩⟩⟩⟩
theorem fd_x0_7 : ∀ q ∈ fd_LT0, q.2 = 1000002 → Jvm.Cond.methodLink "FoldedStrips" q.1 Lib.Math.min.name ∈ fd_TG ∧ Jvm.Cond.static Lib.Math.min.name ∈ fd_TG ∧ Jvm.Cond.initialized "java/lang/Math" ∈ fd_TG ∧ Jvm.Cond.code Lib.Math.min.name Lib.Math.min.code 2 (some .int) ∈ fd_TG := List.forall_mem_cons.mpr ⟨fun h => absurd h (by decide), List.forall_mem_cons.mpr ⟨fun h => absurd h (by decide), List.forall_mem_cons.mpr ⟨fun h => absurd h (by decide), List.forall_mem_cons.mpr ⟨fun h => absurd h (by decide), List.forall_mem_cons.mpr ⟨fun h => absurd h (by decide), List.forall_mem_cons.mpr ⟨fun h => absurd h (by decide), List.forall_mem_cons.mpr ⟨fun h => absurd h (by decide), List.forall_mem_cons.mpr ⟨fun h => absurd h (by decide), List.forall_mem_cons.mpr ⟨fun h => absurd h (by decide), List.forall_mem_cons.mpr ⟨fun h => absurd h (by decide), List.forall_mem_cons.mpr ⟨fun h => absurd h (by decide), List.forall_mem_cons.mpr ⟨fun h => absurd h (by decide), List.forall_mem_cons.mpr ⟨fun h => absurd h (by decide), List.forall_mem_cons.mpr ⟨fun h => absurd h (by decide), List.forall_mem_cons.mpr ⟨fun h => absurd h (by decide), List.forall_mem_cons.mpr ⟨fun h => absurd h (by decide), List.forall_mem_cons.mpr ⟨fun h => absurd h (by decide), List.forall_mem_cons.mpr ⟨fun h => absurd h (by decide), List.forall_mem_cons.mpr ⟨fun h => absurd h (by decide), List.forall_mem_cons.mpr ⟨fun h => absurd h (by decide), List.forall_mem_cons.mpr ⟨fun h => absurd h (by decide), List.forall_mem_cons.mpr ⟨fun h => absurd h (by decide), List.forall_mem_cons.mpr ⟨fun h => absurd h (by decide), List.forall_mem_cons.mpr ⟨fun h => absurd h (by decide), List.forall_mem_cons.mpr ⟨fun h => absurd h (by decide), List.forall_mem_cons.mpr ⟨fun h => absurd h (by decide), List.forall_mem_cons.mpr ⟨fun h => absurd h (by decide), List.forall_mem_cons.mpr ⟨fun h => absurd h (by decide), List.forall_mem_cons.mpr ⟨fun h => absurd h (by decide), List.forall_mem_cons.mpr ⟨fun h => absurd h (by decide), List.forall_mem_cons.mpr ⟨fun h => absurd h (by decide), List.forall_mem_cons.mpr ⟨fun h => absurd h (by decide), List.forall_mem_cons.mpr ⟨fun h => absurd h (by decide), List.forall_mem_cons.mpr ⟨fun h => absurd h (by decide), List.forall_mem_cons.mpr ⟨fun h => absurd h (by decide), List.forall_mem_cons.mpr ⟨fun h => absurd h (by decide), List.forall_mem_cons.mpr ⟨fun h => absurd h (by decide), List.forall_mem_cons.mpr ⟨fun h => absurd h (by decide), List.forall_mem_cons.mpr ⟨fun h => absurd h (by decide), List.forall_mem_cons.mpr ⟨fun h => absurd h (by decide), List.forall_mem_cons.mpr ⟨fun h => absurd h (by decide), List.forall_mem_cons.mpr ⟨fun h => absurd h (by decide), List.forall_mem_cons.mpr ⟨fun h => absurd h (by decide), List.forall_mem_cons.mpr ⟨fun h => absurd h (by decide), List.forall_mem_cons.mpr ⟨fun h => absurd h (by decide), List.forall_mem_cons.mpr ⟨fun h => absurd h (by decide), List.forall_mem_cons.mpr ⟨fun h => absurd h (by decide), List.forall_mem_cons.mpr ⟨fun h => absurd h (by decide), List.forall_mem_cons.mpr ⟨fun h => absurd h (by decide), List.forall_mem_cons.mpr ⟨fun h => absurd h (by decide), List.forall_mem_cons.mpr ⟨fun h => absurd h (by decide), List.forall_mem_cons.mpr ⟨fun h => absurd h (by decide), List.forall_mem_cons.mpr ⟨fun h => absurd h (by decide), List.forall_mem_cons.mpr ⟨fun h => absurd h (by decide), List.forall_mem_cons.mpr ⟨fun h => absurd h (by decide), List.forall_mem_cons.mpr ⟨fun h => absurd h (by decide), List.forall_mem_cons.mpr ⟨fun h => absurd h (by decide), List.forall_mem_cons.mpr ⟨fun h => absurd h (by decide), List.forall_mem_cons.mpr ⟨fun h => absurd h (by decide), List.forall_mem_cons.mpr ⟨fun h => absurd h (by decide), List.forall_mem_cons.mpr ⟨fun h => absurd h (by decide), List.forall_mem_cons.mpr ⟨fun h => absurd h (by decide), List.forall_mem_cons.mpr ⟨fun h => absurd h (by decide), List.forall_mem_cons.mpr ⟨fun h => absurd h (by decide), List.forall_mem_cons.mpr ⟨fun h => absurd h (by decide), List.forall_mem_cons.mpr ⟨fun h => absurd h (by decide), List.forall_mem_cons.mpr ⟨fun h => absurd h (by decide), List.forall_mem_cons.mpr ⟨fun h => absurd h (by decide), List.forall_mem_cons.mpr ⟨fun h => absurd h (by decide), List.forall_mem_cons.mpr ⟨fun h => absurd h (by decide), fun _ h => absurd h List.not_mem_nil⟩⟩⟩⟩⟩⟩⟩⟩⟩⟩⟩⟩⟩⟩⟩⟩⟩⟩⟩⟩⟩⟩⟩⟩⟩⟩⟩⟩⟩⟩⟩⟩⟩⟩⟩⟩⟩⟩⟩⟩⟩⟩⟩⟩⟩⟩⟩⟩⟩⟩⟩⟩⟩⟩⟩⟩⟩⟩⟩⟩⟩⟩⟩⟩⟩⟩⟩⟩⟩⟩
theorem fd_x0 : fx_Tab "FoldedStrips" fd_TG fd_cl fd_CT0 fd_CL0 fd_FT0 fd_PT0 fd_LT0 := ⟨fd_x0_1, fd_x0_2, fd_x0_3, fd_x0_4, fd_x0_5, fd_x0_6, fd_x0_7⟩
theorem fd_l0 : ∀ q ∈ fd_LT0, q.2 < 1000000 → fx_MF fd_TG fd_cl fd_G fd_y fd_b fd_PC q.2 ∧ (Jvm.Cond.methodLink "FoldedStrips" q.1 (fd_y q.2) ∈ fd_TG ∨ ((fd_G q.2).2.2.2 = none ∧ ∃ host, ("FoldedStrips", q.1, fd_y q.2, host) ∈ fd_NW)) := List.forall_mem_cons.mpr ⟨fun _ => ⟨fd_m1, Or.inl (fd_mem 190 (by decide +kernel))⟩, List.forall_mem_cons.mpr ⟨fun _ => ⟨fd_m2, Or.inl (fd_mem 193 (by decide +kernel))⟩, List.forall_mem_cons.mpr ⟨fun _ => ⟨fd_m58, Or.inl (fd_mem 196 (by decide +kernel))⟩, List.forall_mem_cons.mpr ⟨fun _ => ⟨fd_m38, Or.inl (fd_mem 238 (by decide +kernel))⟩, List.forall_mem_cons.mpr ⟨fun _ => ⟨fd_m78, Or.inl (fd_mem 252 (by decide +kernel))⟩, List.forall_mem_cons.mpr ⟨fun _ => ⟨fd_m79, Or.inl (fd_mem 260 (by decide +kernel))⟩, List.forall_mem_cons.mpr ⟨fun _ => ⟨fd_m69, Or.inl (fd_mem 264 (by decide +kernel))⟩, List.forall_mem_cons.mpr ⟨fun _ => ⟨fd_m70, Or.inl (fd_mem 275 (by decide +kernel))⟩, List.forall_mem_cons.mpr ⟨fun _ => ⟨fd_m81, Or.inl (fd_mem 279 (by decide +kernel))⟩, List.forall_mem_cons.mpr ⟨fun _ => ⟨fd_m4, Or.inl (fd_mem 310 (by decide +kernel))⟩, List.forall_mem_cons.mpr ⟨fun _ => ⟨fd_m3, Or.inl (fd_mem 311 (by decide +kernel))⟩, List.forall_mem_cons.mpr ⟨fun _ => ⟨fd_m83, Or.inl (fd_mem 312 (by decide +kernel))⟩, List.forall_mem_cons.mpr ⟨fun _ => ⟨fd_m80, Or.inl (fd_mem 313 (by decide +kernel))⟩, List.forall_mem_cons.mpr ⟨fun _ => ⟨fd_m84, Or.inl (fd_mem 318 (by decide +kernel))⟩, List.forall_mem_cons.mpr ⟨fun _ => ⟨fd_m85, Or.inl (fd_mem 322 (by decide +kernel))⟩, List.forall_mem_cons.mpr ⟨fun _ => ⟨fd_m86, Or.inl (fd_mem 334 (by decide +kernel))⟩, List.forall_mem_cons.mpr ⟨fun _ => ⟨fd_m87, Or.inl (fd_mem 338 (by decide +kernel))⟩, List.forall_mem_cons.mpr ⟨fun _ => ⟨fd_m89, Or.inl (fd_mem 349 (by decide +kernel))⟩, List.forall_mem_cons.mpr ⟨fun _ => ⟨fd_m13, Or.inl (fd_mem 365 (by decide +kernel))⟩, List.forall_mem_cons.mpr ⟨fun _ => ⟨fd_m92, Or.inl (fd_mem 368 (by decide +kernel))⟩, List.forall_mem_cons.mpr ⟨fun _ => ⟨fd_m94, Or.inl (fd_mem 379 (by decide +kernel))⟩, List.forall_mem_cons.mpr ⟨fun _ => ⟨fd_m95, Or.inl (fd_mem 387 (by decide +kernel))⟩, List.forall_mem_cons.mpr ⟨fun _ => ⟨fd_m97, Or.inl (fd_mem 399 (by decide +kernel))⟩, List.forall_mem_cons.mpr ⟨fun _ => ⟨fd_m41, Or.inl (fd_mem 407 (by decide +kernel))⟩, List.forall_mem_cons.mpr ⟨fun _ => ⟨fd_m46, Or.inl (fd_mem 448 (by decide +kernel))⟩, List.forall_mem_cons.mpr ⟨fun _ => ⟨fd_m100, Or.inl (fd_mem 452 (by decide +kernel))⟩, List.forall_mem_cons.mpr ⟨fun _ => ⟨fd_m6, Or.inl (fd_mem 406 (by decide +kernel))⟩, List.forall_mem_cons.mpr ⟨fun _ => ⟨fd_m99, Or.inl (fd_mem 468 (by decide +kernel))⟩, List.forall_mem_cons.mpr ⟨fun _ => ⟨fd_m5, Or.inl (fd_mem 469 (by decide +kernel))⟩, List.forall_mem_cons.mpr ⟨fun _ => ⟨fd_m82, Or.inl (fd_mem 470 (by decide +kernel))⟩, List.forall_mem_cons.mpr ⟨fun _ => ⟨fd_m7, Or.inl (fd_mem 471 (by decide +kernel))⟩, List.forall_mem_cons.mpr ⟨fun _ => ⟨fd_m103, Or.inl (fd_mem 472 (by decide +kernel))⟩, List.forall_mem_cons.mpr ⟨fun _ => ⟨fd_m104, Or.inl (fd_mem 477 (by decide +kernel))⟩, List.forall_mem_cons.mpr ⟨fun _ => ⟨fd_m47, Or.inl (fd_mem 482 (by decide +kernel))⟩, List.forall_mem_cons.mpr ⟨fun _ => ⟨fd_m105, Or.inl (fd_mem 490 (by decide +kernel))⟩, List.forall_mem_cons.mpr ⟨fun _ => ⟨fd_m21, Or.inl (fd_mem 498 (by decide +kernel))⟩, List.forall_mem_cons.mpr ⟨fun _ => ⟨fd_m90, Or.inl (fd_mem 501 (by decide +kernel))⟩, List.forall_mem_cons.mpr ⟨fun _ => ⟨fd_m91, Or.inl (fd_mem 502 (by decide +kernel))⟩, List.forall_mem_cons.mpr ⟨fun _ => ⟨fd_m96, Or.inl (fd_mem 503 (by decide +kernel))⟩, List.forall_mem_cons.mpr ⟨fun _ => ⟨fd_m106, Or.inl (fd_mem 504 (by decide +kernel))⟩, List.forall_mem_cons.mpr ⟨fun _ => ⟨fd_m107, Or.inl (fd_mem 512 (by decide +kernel))⟩, List.forall_mem_cons.mpr ⟨fun _ => ⟨fd_m108, Or.inl (fd_mem 516 (by decide +kernel))⟩, List.forall_mem_cons.mpr ⟨fun _ => ⟨fd_m109, Or.inl (fd_mem 521 (by decide +kernel))⟩, List.forall_mem_cons.mpr ⟨fun _ => ⟨fd_m110, Or.inl (fd_mem 526 (by decide +kernel))⟩, List.forall_mem_cons.mpr ⟨fun _ => ⟨fd_m49, Or.inl (fd_mem 535 (by decide +kernel))⟩, List.forall_mem_cons.mpr ⟨fun _ => ⟨fd_m50, Or.inl (fd_mem 539 (by decide +kernel))⟩, List.forall_mem_cons.mpr ⟨fun _ => ⟨fd_m51, Or.inl (fd_mem 543 (by decide +kernel))⟩, List.forall_mem_cons.mpr ⟨fun _ => ⟨fd_m48, Or.inl (fd_mem 547 (by decide +kernel))⟩, List.forall_mem_cons.mpr ⟨fun _ => ⟨fd_m52, Or.inl (fd_mem 548 (by decide +kernel))⟩, List.forall_mem_cons.mpr ⟨fun _ => ⟨fd_m53, Or.inl (fd_mem 552 (by decide +kernel))⟩, List.forall_mem_cons.mpr ⟨fun _ => ⟨fd_m54, Or.inl (fd_mem 556 (by decide +kernel))⟩, List.forall_mem_cons.mpr ⟨fun _ => ⟨fd_m111, Or.inl (fd_mem 564 (by decide +kernel))⟩, List.forall_mem_cons.mpr ⟨fun _ => ⟨fd_m112, Or.inl (fd_mem 568 (by decide +kernel))⟩, List.forall_mem_cons.mpr ⟨fun _ => ⟨fd_m113, Or.inl (fd_mem 572 (by decide +kernel))⟩, List.forall_mem_cons.mpr ⟨fun _ => ⟨fd_m71, Or.inl (fd_mem 577 (by decide +kernel))⟩, List.forall_mem_cons.mpr ⟨fun _ => ⟨fd_m39, Or.inl (fd_mem 581 (by decide +kernel))⟩, List.forall_mem_cons.mpr ⟨fun _ => ⟨fd_m25, Or.inl (fd_mem 585 (by decide +kernel))⟩, List.forall_mem_cons.mpr ⟨fun _ => ⟨fd_m55, Or.inl (fd_mem 589 (by decide +kernel))⟩, List.forall_mem_cons.mpr ⟨fun _ => ⟨fd_m56, Or.inl (fd_mem 594 (by decide +kernel))⟩, List.forall_mem_cons.mpr ⟨fun _ => ⟨fd_m57, Or.inl (fd_mem 599 (by decide +kernel))⟩, List.forall_mem_cons.mpr ⟨fun _ => ⟨fd_m27, Or.inl (fd_mem 609 (by decide +kernel))⟩, List.forall_mem_cons.mpr ⟨fun _ => ⟨fd_m77, Or.inl (fd_mem 613 (by decide +kernel))⟩, List.forall_mem_cons.mpr ⟨fun _ => ⟨fd_m29, Or.inl (fd_mem 618 (by decide +kernel))⟩, List.forall_mem_cons.mpr ⟨fun _ => ⟨fd_m72, Or.inl (fd_mem 630 (by decide +kernel))⟩, List.forall_mem_cons.mpr ⟨fun _ => ⟨fd_m73, Or.inl (fd_mem 634 (by decide +kernel))⟩, List.forall_mem_cons.mpr ⟨fun _ => ⟨fd_m40, Or.inl (fd_mem 650 (by decide +kernel))⟩, List.forall_mem_cons.mpr ⟨fun _ => ⟨fd_m36, Or.inl (fd_mem 658 (by decide +kernel))⟩, List.forall_mem_cons.mpr ⟨fun _ => ⟨fd_m74, Or.inl (fd_mem 661 (by decide +kernel))⟩, List.forall_mem_cons.mpr ⟨fun _ => ⟨fd_m75, Or.inl (fd_mem 671 (by decide +kernel))⟩, List.forall_mem_cons.mpr ⟨fun _ => ⟨fd_m76, Or.inl (fd_mem 675 (by decide +kernel))⟩, fun _ h => absurd h List.not_mem_nil⟩⟩⟩⟩⟩⟩⟩⟩⟩⟩⟩⟩⟩⟩⟩⟩⟩⟩⟩⟩⟩⟩⟩⟩⟩⟩⟩⟩⟩⟩⟩⟩⟩⟩⟩⟩⟩⟩⟩⟩⟩⟩⟩⟩⟩⟩⟩⟩⟩⟩⟩⟩⟩⟩⟩⟩⟩⟩⟩⟩⟩⟩⟩⟩⟩⟩⟩⟩⟩⟩
theorem fd_x1_1 : ∀ q ∈ fd_CT1, Jvm.Cond.constant "FoldedStrips$History" q.1 (Int32.ofInt q.2) ∈ fd_TG := fun _ h => absurd h List.not_mem_nil
theorem fd_x1_2 : ∀ q ∈ fd_CL1, Jvm.Cond.constantLong "FoldedStrips$History" q.1 (Int64.ofInt q.2) ∈ fd_TG := fun _ h => absurd h List.not_mem_nil
theorem fd_x1_3 : ∀ q ∈ fd_FT1, ∃ C T N, fd_cl[q.2.1]? = some (C, T, N) ∧ q.2.2 < N ∧ Jvm.Cond.fieldLink "FoldedStrips$History" q.1 (T q.2.2).1 (T q.2.2).2.1 (T q.2.2).2.2.1 ∈ fd_TG := List.forall_mem_cons.mpr ⟨⟨fd_R1, fd_T1, 3, rfl, by decide, fd_mem 144 (by decide +kernel)⟩, List.forall_mem_cons.mpr ⟨⟨fd_R1, fd_T1, 3, rfl, by decide, fd_mem 142 (by decide +kernel)⟩, List.forall_mem_cons.mpr ⟨⟨fd_R1, fd_T1, 3, rfl, by decide, fd_mem 143 (by decide +kernel)⟩, fun _ h => absurd h List.not_mem_nil⟩⟩⟩
theorem fd_x1_4 : ∀ q ∈ fd_PT1, ∃ C T N, fd_cl[q.2.1]? = some (C, T, N) ∧ q.2.2 < N ∧ Jvm.Cond.fieldLink "FoldedStrips$History" q.1 (T q.2.2).1 (T q.2.2).2.1 (T q.2.2).2.2.1 ∈ fd_TG ∧ (T q.2.2).2.2.2 = false ∧ parseFieldDescriptor (T q.2.2).2.2.1 = some .int := List.forall_mem_cons.mpr ⟨⟨fd_R1, fd_T1, 3, rfl, by decide, fd_mem 144 (by decide +kernel), rfl, by decide +kernel⟩, List.forall_mem_cons.mpr ⟨⟨fd_R1, fd_T1, 3, rfl, by decide, fd_mem 143 (by decide +kernel), rfl, by decide +kernel⟩, fun _ h => absurd h List.not_mem_nil⟩⟩
theorem fd_x1_5 : ∀ q ∈ fd_LT1, q.2 = 1000000 → Jvm.Cond.methodLink "FoldedStrips$History" q.1 arraycopyName ∈ fd_TG ∧ Jvm.Cond.native arraycopyName ∈ fd_TG ∧ Jvm.Cond.static arraycopyName ∈ fd_TG ∧ Jvm.Cond.initialized "java/lang/System" ∈ fd_TG := List.forall_mem_cons.mpr ⟨fun h => absurd h (by decide), List.forall_mem_cons.mpr ⟨fun h => absurd h (by decide), fun _ h => absurd h List.not_mem_nil⟩⟩
theorem fd_x1_6 : ∀ q ∈ fd_LT1, q.2 = 1000001 → Jvm.Cond.methodLink "FoldedStrips$History" q.1 Lib.Math.max.name ∈ fd_TG ∧ Jvm.Cond.static Lib.Math.max.name ∈ fd_TG ∧ Jvm.Cond.initialized "java/lang/Math" ∈ fd_TG ∧ Jvm.Cond.code Lib.Math.max.name Lib.Math.max.code 2 (some .int) ∈ fd_TG := List.forall_mem_cons.mpr ⟨fun h => absurd h (by decide), List.forall_mem_cons.mpr ⟨fun h => absurd h (by decide), fun _ h => absurd h List.not_mem_nil⟩⟩
theorem fd_x1_7 : ∀ q ∈ fd_LT1, q.2 = 1000002 → Jvm.Cond.methodLink "FoldedStrips$History" q.1 Lib.Math.min.name ∈ fd_TG ∧ Jvm.Cond.static Lib.Math.min.name ∈ fd_TG ∧ Jvm.Cond.initialized "java/lang/Math" ∈ fd_TG ∧ Jvm.Cond.code Lib.Math.min.name Lib.Math.min.code 2 (some .int) ∈ fd_TG := List.forall_mem_cons.mpr ⟨fun h => absurd h (by decide), List.forall_mem_cons.mpr ⟨fun _ => ⟨fd_mem 249 (by decide +kernel), fd_mem 250 (by decide +kernel), fd_mem 59 (by decide +kernel), fd_mem 251 (by decide +kernel)⟩, fun _ h => absurd h List.not_mem_nil⟩⟩
theorem fd_x1 : fx_Tab "FoldedStrips$History" fd_TG fd_cl fd_CT1 fd_CL1 fd_FT1 fd_PT1 fd_LT1 := ⟨fd_x1_1, fd_x1_2, fd_x1_3, fd_x1_4, fd_x1_5, fd_x1_6, fd_x1_7⟩
theorem fd_l1 : ∀ q ∈ fd_LT1, q.2 < 1000000 → fx_MF fd_TG fd_cl fd_G fd_y fd_b fd_PC q.2 ∧ (Jvm.Cond.methodLink "FoldedStrips$History" q.1 (fd_y q.2) ∈ fd_TG ∨ ((fd_G q.2).2.2.2 = none ∧ ∃ host, ("FoldedStrips$History", q.1, fd_y q.2, host) ∈ fd_NW)) := List.forall_mem_cons.mpr ⟨fun _ => ⟨fd_m77, Or.inl (fd_mem 242 (by decide +kernel))⟩, List.forall_mem_cons.mpr ⟨fun h => absurd h (by decide), fun _ h => absurd h List.not_mem_nil⟩⟩
theorem fd_x2_1 : ∀ q ∈ fd_CT2, Jvm.Cond.constant "FoldedStrips$Lines" q.1 (Int32.ofInt q.2) ∈ fd_TG := fun _ h => absurd h List.not_mem_nil
theorem fd_x2_2 : ∀ q ∈ fd_CL2, Jvm.Cond.constantLong "FoldedStrips$Lines" q.1 (Int64.ofInt q.2) ∈ fd_TG := fun _ h => absurd h List.not_mem_nil
theorem fd_x2_3 : ∀ q ∈ fd_FT2, ∃ C T N, fd_cl[q.2.1]? = some (C, T, N) ∧ q.2.2 < N ∧ Jvm.Cond.fieldLink "FoldedStrips$Lines" q.1 (T q.2.2).1 (T q.2.2).2.1 (T q.2.2).2.2.1 ∈ fd_TG := List.forall_mem_cons.mpr ⟨⟨fd_R2, fd_T2, 8, rfl, by decide, fd_mem 94 (by decide +kernel)⟩, List.forall_mem_cons.mpr ⟨⟨fd_R2, fd_T2, 8, rfl, by decide, fd_mem 93 (by decide +kernel)⟩, List.forall_mem_cons.mpr ⟨⟨fd_R2, fd_T2, 8, rfl, by decide, fd_mem 95 (by decide +kernel)⟩, List.forall_mem_cons.mpr ⟨⟨fd_R2, fd_T2, 8, rfl, by decide, fd_mem 96 (by decide +kernel)⟩, List.forall_mem_cons.mpr ⟨⟨fd_R2, fd_T2, 8, rfl, by decide, fd_mem 97 (by decide +kernel)⟩, List.forall_mem_cons.mpr ⟨⟨fd_R2, fd_T2, 8, rfl, by decide, fd_mem 100 (by decide +kernel)⟩, List.forall_mem_cons.mpr ⟨⟨fd_R2, fd_T2, 8, rfl, by decide, fd_mem 98 (by decide +kernel)⟩, List.forall_mem_cons.mpr ⟨⟨fd_R2, fd_T2, 8, rfl, by decide, fd_mem 99 (by decide +kernel)⟩, fun _ h => absurd h List.not_mem_nil⟩⟩⟩⟩⟩⟩⟩⟩
theorem fd_x2_4 : ∀ q ∈ fd_PT2, ∃ C T N, fd_cl[q.2.1]? = some (C, T, N) ∧ q.2.2 < N ∧ Jvm.Cond.fieldLink "FoldedStrips$Lines" q.1 (T q.2.2).1 (T q.2.2).2.1 (T q.2.2).2.2.1 ∈ fd_TG ∧ (T q.2.2).2.2.2 = false ∧ parseFieldDescriptor (T q.2.2).2.2.1 = some .int := List.forall_mem_cons.mpr ⟨⟨fd_R2, fd_T2, 8, rfl, by decide, fd_mem 93 (by decide +kernel), rfl, by decide +kernel⟩, fun _ h => absurd h List.not_mem_nil⟩
theorem fd_x2_5 : ∀ q ∈ fd_LT2, q.2 = 1000000 → Jvm.Cond.methodLink "FoldedStrips$Lines" q.1 arraycopyName ∈ fd_TG ∧ Jvm.Cond.native arraycopyName ∈ fd_TG ∧ Jvm.Cond.static arraycopyName ∈ fd_TG ∧ Jvm.Cond.initialized "java/lang/System" ∈ fd_TG := List.forall_mem_cons.mpr ⟨fun h => absurd h (by decide), List.forall_mem_cons.mpr ⟨fun h => absurd h (by decide), List.forall_mem_cons.mpr ⟨fun h => absurd h (by decide), List.forall_mem_cons.mpr ⟨fun h => absurd h (by decide), List.forall_mem_cons.mpr ⟨fun h => absurd h (by decide), List.forall_mem_cons.mpr ⟨fun h => absurd h (by decide), List.forall_mem_cons.mpr ⟨fun h => absurd h (by decide), List.forall_mem_cons.mpr ⟨fun h => absurd h (by decide), List.forall_mem_cons.mpr ⟨fun h => absurd h (by decide), List.forall_mem_cons.mpr ⟨fun h => absurd h (by decide), List.forall_mem_cons.mpr ⟨fun h => absurd h (by decide), List.forall_mem_cons.mpr ⟨fun h => absurd h (by decide), List.forall_mem_cons.mpr ⟨fun h => absurd h (by decide), List.forall_mem_cons.mpr ⟨fun h => absurd h (by decide), List.forall_mem_cons.mpr ⟨fun h => absurd h (by decide), List.forall_mem_cons.mpr ⟨fun h => absurd h (by decide), List.forall_mem_cons.mpr ⟨fun h => absurd h (by decide), List.forall_mem_cons.mpr ⟨fun h => absurd h (by decide), fun _ h => absurd h List.not_mem_nil⟩⟩⟩⟩⟩⟩⟩⟩⟩⟩⟩⟩⟩⟩⟩⟩⟩⟩
theorem fd_x2_6 : ∀ q ∈ fd_LT2, q.2 = 1000001 → Jvm.Cond.methodLink "FoldedStrips$Lines" q.1 Lib.Math.max.name ∈ fd_TG ∧ Jvm.Cond.static Lib.Math.max.name ∈ fd_TG ∧ Jvm.Cond.initialized "java/lang/Math" ∈ fd_TG ∧ Jvm.Cond.code Lib.Math.max.name Lib.Math.max.code 2 (some .int) ∈ fd_TG := List.forall_mem_cons.mpr ⟨fun h => absurd h (by decide), List.forall_mem_cons.mpr ⟨fun h => absurd h (by decide), List.forall_mem_cons.mpr ⟨fun h => absurd h (by decide), List.forall_mem_cons.mpr ⟨fun h => absurd h (by decide), List.forall_mem_cons.mpr ⟨fun h => absurd h (by decide), List.forall_mem_cons.mpr ⟨fun h => absurd h (by decide), List.forall_mem_cons.mpr ⟨fun h => absurd h (by decide), List.forall_mem_cons.mpr ⟨fun _ => ⟨fd_mem 445 (by decide +kernel), fd_mem 446 (by decide +kernel), fd_mem 59 (by decide +kernel), fd_mem 447 (by decide +kernel)⟩, List.forall_mem_cons.mpr ⟨fun h => absurd h (by decide), List.forall_mem_cons.mpr ⟨fun h => absurd h (by decide), List.forall_mem_cons.mpr ⟨fun h => absurd h (by decide), List.forall_mem_cons.mpr ⟨fun h => absurd h (by decide), List.forall_mem_cons.mpr ⟨fun h => absurd h (by decide), List.forall_mem_cons.mpr ⟨fun h => absurd h (by decide), List.forall_mem_cons.mpr ⟨fun h => absurd h (by decide), List.forall_mem_cons.mpr ⟨fun h => absurd h (by decide), List.forall_mem_cons.mpr ⟨fun h => absurd h (by decide), List.forall_mem_cons.mpr ⟨fun h => absurd h (by decide), fun _ h => absurd h List.not_mem_nil⟩⟩⟩⟩⟩⟩⟩⟩⟩⟩⟩⟩⟩⟩⟩⟩⟩⟩
theorem fd_x2_7 : ∀ q ∈ fd_LT2, q.2 = 1000002 → Jvm.Cond.methodLink "FoldedStrips$Lines" q.1 Lib.Math.min.name ∈ fd_TG ∧ Jvm.Cond.static Lib.Math.min.name ∈ fd_TG ∧ Jvm.Cond.initialized "java/lang/Math" ∈ fd_TG ∧ Jvm.Cond.code Lib.Math.min.name Lib.Math.min.code 2 (some .int) ∈ fd_TG := List.forall_mem_cons.mpr ⟨fun h => absurd h (by decide), List.forall_mem_cons.mpr ⟨fun h => absurd h (by decide), List.forall_mem_cons.mpr ⟨fun h => absurd h (by decide), List.forall_mem_cons.mpr ⟨fun h => absurd h (by decide), List.forall_mem_cons.mpr ⟨fun h => absurd h (by decide), List.forall_mem_cons.mpr ⟨fun h => absurd h (by decide), List.forall_mem_cons.mpr ⟨fun _ => ⟨fd_mem 444 (by decide +kernel), fd_mem 250 (by decide +kernel), fd_mem 59 (by decide +kernel), fd_mem 251 (by decide +kernel)⟩, List.forall_mem_cons.mpr ⟨fun h => absurd h (by decide), List.forall_mem_cons.mpr ⟨fun h => absurd h (by decide), List.forall_mem_cons.mpr ⟨fun h => absurd h (by decide), List.forall_mem_cons.mpr ⟨fun h => absurd h (by decide), List.forall_mem_cons.mpr ⟨fun h => absurd h (by decide), List.forall_mem_cons.mpr ⟨fun h => absurd h (by decide), List.forall_mem_cons.mpr ⟨fun h => absurd h (by decide), List.forall_mem_cons.mpr ⟨fun h => absurd h (by decide), List.forall_mem_cons.mpr ⟨fun h => absurd h (by decide), List.forall_mem_cons.mpr ⟨fun h => absurd h (by decide), List.forall_mem_cons.mpr ⟨fun h => absurd h (by decide), fun _ h => absurd h List.not_mem_nil⟩⟩⟩⟩⟩⟩⟩⟩⟩⟩⟩⟩⟩⟩⟩⟩⟩⟩
theorem fd_x2 : fx_Tab "FoldedStrips$Lines" fd_TG fd_cl fd_CT2 fd_CL2 fd_FT2 fd_PT2 fd_LT2 := ⟨fd_x2_1, fd_x2_2, fd_x2_3, fd_x2_4, fd_x2_5, fd_x2_6, fd_x2_7⟩
theorem fd_l2 : ∀ q ∈ fd_LT2, q.2 < 1000000 → fx_MF fd_TG fd_cl fd_G fd_y fd_b fd_PC q.2 ∧ (Jvm.Cond.methodLink "FoldedStrips$Lines" q.1 (fd_y q.2) ∈ fd_TG ∨ ((fd_G q.2).2.2.2 = none ∧ ∃ host, ("FoldedStrips$Lines", q.1, fd_y q.2, host) ∈ fd_NW)) := List.forall_mem_cons.mpr ⟨fun _ => ⟨fd_m183, Or.inl (fd_mem 411 (by decide +kernel))⟩, List.forall_mem_cons.mpr ⟨fun _ => ⟨fd_m83, Or.inl (fd_mem 414 (by decide +kernel))⟩, List.forall_mem_cons.mpr ⟨fun _ => ⟨fd_m42, Or.inl (fd_mem 415 (by decide +kernel))⟩, List.forall_mem_cons.mpr ⟨fun _ => ⟨fd_m43, Or.inl (fd_mem 419 (by decide +kernel))⟩, List.forall_mem_cons.mpr ⟨fun _ => ⟨fd_m44, Or.inl (fd_mem 422 (by decide +kernel))⟩, List.forall_mem_cons.mpr ⟨fun _ => ⟨fd_m17, Or.inr ⟨rfl, "FoldedStrips", List.mem_of_getElem? (i := 10) (by decide +kernel)⟩⟩, List.forall_mem_cons.mpr ⟨fun h => absurd h (by decide), List.forall_mem_cons.mpr ⟨fun h => absurd h (by decide), List.forall_mem_cons.mpr ⟨fun _ => ⟨fd_m98, Or.inl (fd_mem 426 (by decide +kernel))⟩, List.forall_mem_cons.mpr ⟨fun _ => ⟨fd_m45, Or.inl (fd_mem 433 (by decide +kernel))⟩, List.forall_mem_cons.mpr ⟨fun _ => ⟨fd_m6, Or.inr ⟨rfl, "FoldedStrips", List.mem_of_getElem? (i := 8) (by decide +kernel)⟩⟩, List.forall_mem_cons.mpr ⟨fun _ => ⟨fd_m18, Or.inr ⟨rfl, "FoldedStrips", List.mem_of_getElem? (i := 9) (by decide +kernel)⟩⟩, List.forall_mem_cons.mpr ⟨fun _ => ⟨fd_m99, Or.inl (fd_mem 439 (by decide +kernel))⟩, List.forall_mem_cons.mpr ⟨fun _ => ⟨fd_m48, Or.inl (fd_mem 486 (by decide +kernel))⟩, List.forall_mem_cons.mpr ⟨fun _ => ⟨fd_m51, Or.inl (fd_mem 593 (by decide +kernel))⟩, List.forall_mem_cons.mpr ⟨fun _ => ⟨fd_m50, Or.inl (fd_mem 598 (by decide +kernel))⟩, List.forall_mem_cons.mpr ⟨fun _ => ⟨fd_m53, Or.inl (fd_mem 603 (by decide +kernel))⟩, List.forall_mem_cons.mpr ⟨fun _ => ⟨fd_m54, Or.inl (fd_mem 604 (by decide +kernel))⟩, fun _ h => absurd h List.not_mem_nil⟩⟩⟩⟩⟩⟩⟩⟩⟩⟩⟩⟩⟩⟩⟩⟩⟩⟩
theorem fd_x3_1 : ∀ q ∈ fd_CT3, Jvm.Cond.constant "FoldedStrips$Pad" q.1 (Int32.ofInt q.2) ∈ fd_TG := List.forall_mem_cons.mpr ⟨fd_mem 233 (by decide +kernel), List.forall_mem_cons.mpr ⟨fd_mem 224 (by decide +kernel), fun _ h => absurd h List.not_mem_nil⟩⟩
theorem fd_x3_2 : ∀ q ∈ fd_CL3, Jvm.Cond.constantLong "FoldedStrips$Pad" q.1 (Int64.ofInt q.2) ∈ fd_TG := List.forall_mem_cons.mpr ⟨fd_mem 633 (by decide +kernel), fun _ h => absurd h List.not_mem_nil⟩
theorem fd_x3_3 : ∀ q ∈ fd_FT3, ∃ C T N, fd_cl[q.2.1]? = some (C, T, N) ∧ q.2.2 < N ∧ Jvm.Cond.fieldLink "FoldedStrips$Pad" q.1 (T q.2.2).1 (T q.2.2).2.1 (T q.2.2).2.2.1 ∈ fd_TG := List.forall_mem_cons.mpr ⟨⟨fd_R3, fd_T3, 2, rfl, by decide, fd_mem 126 (by decide +kernel)⟩, List.forall_mem_cons.mpr ⟨⟨fd_R3, fd_T3, 2, rfl, by decide, fd_mem 125 (by decide +kernel)⟩, fun _ h => absurd h List.not_mem_nil⟩⟩
theorem fd_x3_4 : ∀ q ∈ fd_PT3, ∃ C T N, fd_cl[q.2.1]? = some (C, T, N) ∧ q.2.2 < N ∧ Jvm.Cond.fieldLink "FoldedStrips$Pad" q.1 (T q.2.2).1 (T q.2.2).2.1 (T q.2.2).2.2.1 ∈ fd_TG ∧ (T q.2.2).2.2.2 = false ∧ parseFieldDescriptor (T q.2.2).2.2.1 = some .int := List.forall_mem_cons.mpr ⟨⟨fd_R3, fd_T3, 2, rfl, by decide, fd_mem 126 (by decide +kernel), rfl, by decide +kernel⟩, fun _ h => absurd h List.not_mem_nil⟩
theorem fd_x3_5 : ∀ q ∈ fd_LT3, q.2 = 1000000 → Jvm.Cond.methodLink "FoldedStrips$Pad" q.1 arraycopyName ∈ fd_TG ∧ Jvm.Cond.native arraycopyName ∈ fd_TG ∧ Jvm.Cond.static arraycopyName ∈ fd_TG ∧ Jvm.Cond.initialized "java/lang/System" ∈ fd_TG := List.forall_mem_cons.mpr ⟨fun h => absurd h (by decide), List.forall_mem_cons.mpr ⟨fun h => absurd h (by decide), List.forall_mem_cons.mpr ⟨fun h => absurd h (by decide), List.forall_mem_cons.mpr ⟨fun h => absurd h (by decide), List.forall_mem_cons.mpr ⟨fun h => absurd h (by decide), List.forall_mem_cons.mpr ⟨fun h => absurd h (by decide), List.forall_mem_cons.mpr ⟨fun h => absurd h (by decide), List.forall_mem_cons.mpr ⟨fun h => absurd h (by decide), List.forall_mem_cons.mpr ⟨fun h => absurd h (by decide), List.forall_mem_cons.mpr ⟨fun h => absurd h (by decide), List.forall_mem_cons.mpr ⟨fun h => absurd h (by decide), fun _ h => absurd h List.not_mem_nil⟩⟩⟩⟩⟩⟩⟩⟩⟩⟩⟩
theorem fd_x3_6 : ∀ q ∈ fd_LT3, q.2 = 1000001 → Jvm.Cond.methodLink "FoldedStrips$Pad" q.1 Lib.Math.max.name ∈ fd_TG ∧ Jvm.Cond.static Lib.Math.max.name ∈ fd_TG ∧ Jvm.Cond.initialized "java/lang/Math" ∈ fd_TG ∧ Jvm.Cond.code Lib.Math.max.name Lib.Math.max.code 2 (some .int) ∈ fd_TG := List.forall_mem_cons.mpr ⟨fun h => absurd h (by decide), List.forall_mem_cons.mpr ⟨fun h => absurd h (by decide), List.forall_mem_cons.mpr ⟨fun h => absurd h (by decide), List.forall_mem_cons.mpr ⟨fun h => absurd h (by decide), List.forall_mem_cons.mpr ⟨fun h => absurd h (by decide), List.forall_mem_cons.mpr ⟨fun h => absurd h (by decide), List.forall_mem_cons.mpr ⟨fun h => absurd h (by decide), List.forall_mem_cons.mpr ⟨fun h => absurd h (by decide), List.forall_mem_cons.mpr ⟨fun h => absurd h (by decide), List.forall_mem_cons.mpr ⟨fun h => absurd h (by decide), List.forall_mem_cons.mpr ⟨fun h => absurd h (by decide), fun _ h => absurd h List.not_mem_nil⟩⟩⟩⟩⟩⟩⟩⟩⟩⟩⟩
theorem fd_x3_7 : ∀ q ∈ fd_LT3, q.2 = 1000002 → Jvm.Cond.methodLink "FoldedStrips$Pad" q.1 Lib.Math.min.name ∈ fd_TG ∧ Jvm.Cond.static Lib.Math.min.name ∈ fd_TG ∧ Jvm.Cond.initialized "java/lang/Math" ∈ fd_TG ∧ Jvm.Cond.code Lib.Math.min.name Lib.Math.min.code 2 (some .int) ∈ fd_TG := List.forall_mem_cons.mpr ⟨fun h => absurd h (by decide), List.forall_mem_cons.mpr ⟨fun h => absurd h (by decide), List.forall_mem_cons.mpr ⟨fun h => absurd h (by decide), List.forall_mem_cons.mpr ⟨fun h => absurd h (by decide), List.forall_mem_cons.mpr ⟨fun h => absurd h (by decide), List.forall_mem_cons.mpr ⟨fun h => absurd h (by decide), List.forall_mem_cons.mpr ⟨fun h => absurd h (by decide), List.forall_mem_cons.mpr ⟨fun h => absurd h (by decide), List.forall_mem_cons.mpr ⟨fun h => absurd h (by decide), List.forall_mem_cons.mpr ⟨fun h => absurd h (by decide), List.forall_mem_cons.mpr ⟨fun h => absurd h (by decide), fun _ h => absurd h List.not_mem_nil⟩⟩⟩⟩⟩⟩⟩⟩⟩⟩⟩
theorem fd_x3 : fx_Tab "FoldedStrips$Pad" fd_TG fd_cl fd_CT3 fd_CL3 fd_FT3 fd_PT3 fd_LT3 := ⟨fd_x3_1, fd_x3_2, fd_x3_3, fd_x3_4, fd_x3_5, fd_x3_6, fd_x3_7⟩
theorem fd_l3 : ∀ q ∈ fd_LT3, q.2 < 1000000 → fx_MF fd_TG fd_cl fd_G fd_y fd_b fd_PC q.2 ∧ (Jvm.Cond.methodLink "FoldedStrips$Pad" q.1 (fd_y q.2) ∈ fd_TG ∨ ((fd_G q.2).2.2.2 = none ∧ ∃ host, ("FoldedStrips$Pad", q.1, fd_y q.2, host) ∈ fd_NW)) := List.forall_mem_cons.mpr ⟨fun _ => ⟨fd_m59, Or.inl (fd_mem 200 (by decide +kernel))⟩, List.forall_mem_cons.mpr ⟨fun _ => ⟨fd_m68, Or.inl (fd_mem 234 (by decide +kernel))⟩, List.forall_mem_cons.mpr ⟨fun _ => ⟨fd_m67, Or.inl (fd_mem 229 (by decide +kernel))⟩, List.forall_mem_cons.mpr ⟨fun _ => ⟨fd_m60, Or.inl (fd_mem 204 (by decide +kernel))⟩, List.forall_mem_cons.mpr ⟨fun _ => ⟨fd_m62, Or.inl (fd_mem 212 (by decide +kernel))⟩, List.forall_mem_cons.mpr ⟨fun _ => ⟨fd_m61, Or.inl (fd_mem 208 (by decide +kernel))⟩, List.forall_mem_cons.mpr ⟨fun _ => ⟨fd_m63, Or.inl (fd_mem 215 (by decide +kernel))⟩, List.forall_mem_cons.mpr ⟨fun _ => ⟨fd_m66, Or.inl (fd_mem 225 (by decide +kernel))⟩, List.forall_mem_cons.mpr ⟨fun _ => ⟨fd_m64, Or.inl (fd_mem 218 (by decide +kernel))⟩, List.forall_mem_cons.mpr ⟨fun _ => ⟨fd_m65, Or.inl (fd_mem 221 (by decide +kernel))⟩, List.forall_mem_cons.mpr ⟨fun _ => ⟨fd_m80, Or.inl (fd_mem 268 (by decide +kernel))⟩, fun _ h => absurd h List.not_mem_nil⟩⟩⟩⟩⟩⟩⟩⟩⟩⟩⟩
theorem fd_x4_1 : ∀ q ∈ fd_CT4, Jvm.Cond.constant "FoldedStrips$Slots" q.1 (Int32.ofInt q.2) ∈ fd_TG := fun _ h => absurd h List.not_mem_nil
theorem fd_x4_2 : ∀ q ∈ fd_CL4, Jvm.Cond.constantLong "FoldedStrips$Slots" q.1 (Int64.ofInt q.2) ∈ fd_TG := fun _ h => absurd h List.not_mem_nil
theorem fd_x4_3 : ∀ q ∈ fd_FT4, ∃ C T N, fd_cl[q.2.1]? = some (C, T, N) ∧ q.2.2 < N ∧ Jvm.Cond.fieldLink "FoldedStrips$Slots" q.1 (T q.2.2).1 (T q.2.2).2.1 (T q.2.2).2.2.1 ∈ fd_TG := List.forall_mem_cons.mpr ⟨⟨fd_R4, fd_T4, 2, rfl, by decide, fd_mem 160 (by decide +kernel)⟩, List.forall_mem_cons.mpr ⟨⟨fd_R4, fd_T4, 2, rfl, by decide, fd_mem 161 (by decide +kernel)⟩, fun _ h => absurd h List.not_mem_nil⟩⟩
theorem fd_x4_4 : ∀ q ∈ fd_PT4, ∃ C T N, fd_cl[q.2.1]? = some (C, T, N) ∧ q.2.2 < N ∧ Jvm.Cond.fieldLink "FoldedStrips$Slots" q.1 (T q.2.2).1 (T q.2.2).2.1 (T q.2.2).2.2.1 ∈ fd_TG ∧ (T q.2.2).2.2.2 = false ∧ parseFieldDescriptor (T q.2.2).2.2.1 = some .int := fun _ h => absurd h List.not_mem_nil
theorem fd_x4_5 : ∀ q ∈ fd_LT4, q.2 = 1000000 → Jvm.Cond.methodLink "FoldedStrips$Slots" q.1 arraycopyName ∈ fd_TG ∧ Jvm.Cond.native arraycopyName ∈ fd_TG ∧ Jvm.Cond.static arraycopyName ∈ fd_TG ∧ Jvm.Cond.initialized "java/lang/System" ∈ fd_TG := List.forall_mem_cons.mpr ⟨fun h => absurd h (by decide), List.forall_mem_cons.mpr ⟨fun h => absurd h (by decide), List.forall_mem_cons.mpr ⟨fun h => absurd h (by decide), fun _ h => absurd h List.not_mem_nil⟩⟩⟩
theorem fd_x4_6 : ∀ q ∈ fd_LT4, q.2 = 1000001 → Jvm.Cond.methodLink "FoldedStrips$Slots" q.1 Lib.Math.max.name ∈ fd_TG ∧ Jvm.Cond.static Lib.Math.max.name ∈ fd_TG ∧ Jvm.Cond.initialized "java/lang/Math" ∈ fd_TG ∧ Jvm.Cond.code Lib.Math.max.name Lib.Math.max.code 2 (some .int) ∈ fd_TG := List.forall_mem_cons.mpr ⟨fun h => absurd h (by decide), List.forall_mem_cons.mpr ⟨fun h => absurd h (by decide), List.forall_mem_cons.mpr ⟨fun h => absurd h (by decide), fun _ h => absurd h List.not_mem_nil⟩⟩⟩
theorem fd_x4_7 : ∀ q ∈ fd_LT4, q.2 = 1000002 → Jvm.Cond.methodLink "FoldedStrips$Slots" q.1 Lib.Math.min.name ∈ fd_TG ∧ Jvm.Cond.static Lib.Math.min.name ∈ fd_TG ∧ Jvm.Cond.initialized "java/lang/Math" ∈ fd_TG ∧ Jvm.Cond.code Lib.Math.min.name Lib.Math.min.code 2 (some .int) ∈ fd_TG := List.forall_mem_cons.mpr ⟨fun h => absurd h (by decide), List.forall_mem_cons.mpr ⟨fun h => absurd h (by decide), List.forall_mem_cons.mpr ⟨fun h => absurd h (by decide), fun _ h => absurd h List.not_mem_nil⟩⟩⟩
theorem fd_x4 : fx_Tab "FoldedStrips$Slots" fd_TG fd_cl fd_CT4 fd_CL4 fd_FT4 fd_PT4 fd_LT4 := ⟨fd_x4_1, fd_x4_2, fd_x4_3, fd_x4_4, fd_x4_5, fd_x4_6, fd_x4_7⟩
theorem fd_l4 : ∀ q ∈ fd_LT4, q.2 < 1000000 → fx_MF fd_TG fd_cl fd_G fd_y fd_b fd_PC q.2 ∧ (Jvm.Cond.methodLink "FoldedStrips$Slots" q.1 (fd_y q.2) ∈ fd_TG ∨ ((fd_G q.2).2.2.2 = none ∧ ∃ host, ("FoldedStrips$Slots", q.1, fd_y q.2, host) ∈ fd_NW)) := List.forall_mem_cons.mpr ⟨fun _ => ⟨fd_m36, Or.inr ⟨rfl, "FoldedStrips", List.mem_of_getElem? (i := 11) (by decide +kernel)⟩⟩, List.forall_mem_cons.mpr ⟨fun _ => ⟨fd_m77, Or.inl (fd_mem 666 (by decide +kernel))⟩, List.forall_mem_cons.mpr ⟨fun _ => ⟨fd_m75, Or.inl (fd_mem 679 (by decide +kernel))⟩, fun _ h => absurd h List.not_mem_nil⟩⟩⟩
theorem fd_x5_1 : ∀ q ∈ fd_CT5, Jvm.Cond.constant "FoldedStrips$Strip" q.1 (Int32.ofInt q.2) ∈ fd_TG := fun _ h => absurd h List.not_mem_nil
theorem fd_x5_2 : ∀ q ∈ fd_CL5, Jvm.Cond.constantLong "FoldedStrips$Strip" q.1 (Int64.ofInt q.2) ∈ fd_TG := fun _ h => absurd h List.not_mem_nil
theorem fd_x5_3 : ∀ q ∈ fd_FT5, ∃ C T N, fd_cl[q.2.1]? = some (C, T, N) ∧ q.2.2 < N ∧ Jvm.Cond.fieldLink "FoldedStrips$Strip" q.1 (T q.2.2).1 (T q.2.2).2.1 (T q.2.2).2.2.1 ∈ fd_TG := List.forall_mem_cons.mpr ⟨⟨fd_R5, fd_T5, 3, rfl, by decide, fd_mem 76 (by decide +kernel)⟩, List.forall_mem_cons.mpr ⟨⟨fd_R5, fd_T5, 3, rfl, by decide, fd_mem 77 (by decide +kernel)⟩, List.forall_mem_cons.mpr ⟨⟨fd_R5, fd_T5, 3, rfl, by decide, fd_mem 78 (by decide +kernel)⟩, fun _ h => absurd h List.not_mem_nil⟩⟩⟩
theorem fd_x5_4 : ∀ q ∈ fd_PT5, ∃ C T N, fd_cl[q.2.1]? = some (C, T, N) ∧ q.2.2 < N ∧ Jvm.Cond.fieldLink "FoldedStrips$Strip" q.1 (T q.2.2).1 (T q.2.2).2.1 (T q.2.2).2.2.1 ∈ fd_TG ∧ (T q.2.2).2.2.2 = false ∧ parseFieldDescriptor (T q.2.2).2.2.1 = some .int := fun _ h => absurd h List.not_mem_nil
theorem fd_x5_5 : ∀ q ∈ fd_LT5, q.2 = 1000000 → Jvm.Cond.methodLink "FoldedStrips$Strip" q.1 arraycopyName ∈ fd_TG ∧ Jvm.Cond.native arraycopyName ∈ fd_TG ∧ Jvm.Cond.static arraycopyName ∈ fd_TG ∧ Jvm.Cond.initialized "java/lang/System" ∈ fd_TG := List.forall_mem_cons.mpr ⟨fun _ => ⟨fd_mem 246 (by decide +kernel), fd_mem 248 (by decide +kernel), fd_mem 247 (by decide +kernel), fd_mem 58 (by decide +kernel)⟩, List.forall_mem_cons.mpr ⟨fun h => absurd h (by decide), List.forall_mem_cons.mpr ⟨fun h => absurd h (by decide), List.forall_mem_cons.mpr ⟨fun h => absurd h (by decide), List.forall_mem_cons.mpr ⟨fun h => absurd h (by decide), List.forall_mem_cons.mpr ⟨fun h => absurd h (by decide), List.forall_mem_cons.mpr ⟨fun h => absurd h (by decide), List.forall_mem_cons.mpr ⟨fun h => absurd h (by decide), List.forall_mem_cons.mpr ⟨fun h => absurd h (by decide), List.forall_mem_cons.mpr ⟨fun h => absurd h (by decide), List.forall_mem_cons.mpr ⟨fun h => absurd h (by decide), List.forall_mem_cons.mpr ⟨fun h => absurd h (by decide), List.forall_mem_cons.mpr ⟨fun h => absurd h (by decide), List.forall_mem_cons.mpr ⟨fun h => absurd h (by decide), List.forall_mem_cons.mpr ⟨fun h => absurd h (by decide), List.forall_mem_cons.mpr ⟨fun h => absurd h (by decide), List.forall_mem_cons.mpr ⟨fun h => absurd h (by decide), List.forall_mem_cons.mpr ⟨fun h => absurd h (by decide), List.forall_mem_cons.mpr ⟨fun h => absurd h (by decide), List.forall_mem_cons.mpr ⟨fun h => absurd h (by decide), List.forall_mem_cons.mpr ⟨fun h => absurd h (by decide), List.forall_mem_cons.mpr ⟨fun h => absurd h (by decide), List.forall_mem_cons.mpr ⟨fun h => absurd h (by decide), List.forall_mem_cons.mpr ⟨fun h => absurd h (by decide), List.forall_mem_cons.mpr ⟨fun h => absurd h (by decide), List.forall_mem_cons.mpr ⟨fun h => absurd h (by decide), List.forall_mem_cons.mpr ⟨fun h => absurd h (by decide), List.forall_mem_cons.mpr ⟨fun h => absurd h (by decide), List.forall_mem_cons.mpr ⟨fun h => absurd h (by decide), List.forall_mem_cons.mpr ⟨fun h => absurd h (by decide), fun _ h => absurd h List.not_mem_nil⟩⟩⟩⟩⟩⟩⟩⟩⟩⟩⟩⟩⟩⟩⟩⟩⟩⟩⟩⟩⟩⟩⟩⟩⟩⟩⟩⟩⟩⟩
theorem fd_x5_6 : ∀ q ∈ fd_LT5, q.2 = 1000001 → Jvm.Cond.methodLink "FoldedStrips$Strip" q.1 Lib.Math.max.name ∈ fd_TG ∧ Jvm.Cond.static Lib.Math.max.name ∈ fd_TG ∧ Jvm.Cond.initialized "java/lang/Math" ∈ fd_TG ∧ Jvm.Cond.code Lib.Math.max.name Lib.Math.max.code 2 (some .int) ∈ fd_TG := List.forall_mem_cons.mpr ⟨fun h => absurd h (by decide), List.forall_mem_cons.mpr ⟨fun h => absurd h (by decide), List.forall_mem_cons.mpr ⟨fun h => absurd h (by decide), List.forall_mem_cons.mpr ⟨fun h => absurd h (by decide), List.forall_mem_cons.mpr ⟨fun h => absurd h (by decide), List.forall_mem_cons.mpr ⟨fun h => absurd h (by decide), List.forall_mem_cons.mpr ⟨fun h => absurd h (by decide), List.forall_mem_cons.mpr ⟨fun h => absurd h (by decide), List.forall_mem_cons.mpr ⟨fun h => absurd h (by decide), List.forall_mem_cons.mpr ⟨fun h => absurd h (by decide), List.forall_mem_cons.mpr ⟨fun h => absurd h (by decide), List.forall_mem_cons.mpr ⟨fun h => absurd h (by decide), List.forall_mem_cons.mpr ⟨fun h => absurd h (by decide), List.forall_mem_cons.mpr ⟨fun h => absurd h (by decide), List.forall_mem_cons.mpr ⟨fun h => absurd h (by decide), List.forall_mem_cons.mpr ⟨fun h => absurd h (by decide), List.forall_mem_cons.mpr ⟨fun h => absurd h (by decide), List.forall_mem_cons.mpr ⟨fun h => absurd h (by decide), List.forall_mem_cons.mpr ⟨fun h => absurd h (by decide), List.forall_mem_cons.mpr ⟨fun h => absurd h (by decide), List.forall_mem_cons.mpr ⟨fun h => absurd h (by decide), List.forall_mem_cons.mpr ⟨fun h => absurd h (by decide), List.forall_mem_cons.mpr ⟨fun h => absurd h (by decide), List.forall_mem_cons.mpr ⟨fun _ => ⟨fd_mem 463 (by decide +kernel), fd_mem 446 (by decide +kernel), fd_mem 59 (by decide +kernel), fd_mem 447 (by decide +kernel)⟩, List.forall_mem_cons.mpr ⟨fun h => absurd h (by decide), List.forall_mem_cons.mpr ⟨fun h => absurd h (by decide), List.forall_mem_cons.mpr ⟨fun h => absurd h (by decide), List.forall_mem_cons.mpr ⟨fun h => absurd h (by decide), List.forall_mem_cons.mpr ⟨fun h => absurd h (by decide), List.forall_mem_cons.mpr ⟨fun h => absurd h (by decide), fun _ h => absurd h List.not_mem_nil⟩⟩⟩⟩⟩⟩⟩⟩⟩⟩⟩⟩⟩⟩⟩⟩⟩⟩⟩⟩⟩⟩⟩⟩⟩⟩⟩⟩⟩⟩
theorem fd_x5_7 : ∀ q ∈ fd_LT5, q.2 = 1000002 → Jvm.Cond.methodLink "FoldedStrips$Strip" q.1 Lib.Math.min.name ∈ fd_TG ∧ Jvm.Cond.static Lib.Math.min.name ∈ fd_TG ∧ Jvm.Cond.initialized "java/lang/Math" ∈ fd_TG ∧ Jvm.Cond.code Lib.Math.min.name Lib.Math.min.code 2 (some .int) ∈ fd_TG := List.forall_mem_cons.mpr ⟨fun h => absurd h (by decide), List.forall_mem_cons.mpr ⟨fun h => absurd h (by decide), List.forall_mem_cons.mpr ⟨fun h => absurd h (by decide), List.forall_mem_cons.mpr ⟨fun h => absurd h (by decide), List.forall_mem_cons.mpr ⟨fun h => absurd h (by decide), List.forall_mem_cons.mpr ⟨fun h => absurd h (by decide), List.forall_mem_cons.mpr ⟨fun h => absurd h (by decide), List.forall_mem_cons.mpr ⟨fun h => absurd h (by decide), List.forall_mem_cons.mpr ⟨fun h => absurd h (by decide), List.forall_mem_cons.mpr ⟨fun h => absurd h (by decide), List.forall_mem_cons.mpr ⟨fun h => absurd h (by decide), List.forall_mem_cons.mpr ⟨fun h => absurd h (by decide), List.forall_mem_cons.mpr ⟨fun h => absurd h (by decide), List.forall_mem_cons.mpr ⟨fun h => absurd h (by decide), List.forall_mem_cons.mpr ⟨fun h => absurd h (by decide), List.forall_mem_cons.mpr ⟨fun h => absurd h (by decide), List.forall_mem_cons.mpr ⟨fun h => absurd h (by decide), List.forall_mem_cons.mpr ⟨fun h => absurd h (by decide), List.forall_mem_cons.mpr ⟨fun h => absurd h (by decide), List.forall_mem_cons.mpr ⟨fun h => absurd h (by decide), List.forall_mem_cons.mpr ⟨fun h => absurd h (by decide), List.forall_mem_cons.mpr ⟨fun h => absurd h (by decide), List.forall_mem_cons.mpr ⟨fun _ => ⟨fd_mem 462 (by decide +kernel), fd_mem 250 (by decide +kernel), fd_mem 59 (by decide +kernel), fd_mem 251 (by decide +kernel)⟩, List.forall_mem_cons.mpr ⟨fun h => absurd h (by decide), List.forall_mem_cons.mpr ⟨fun h => absurd h (by decide), List.forall_mem_cons.mpr ⟨fun h => absurd h (by decide), List.forall_mem_cons.mpr ⟨fun h => absurd h (by decide), List.forall_mem_cons.mpr ⟨fun h => absurd h (by decide), List.forall_mem_cons.mpr ⟨fun h => absurd h (by decide), List.forall_mem_cons.mpr ⟨fun h => absurd h (by decide), fun _ h => absurd h List.not_mem_nil⟩⟩⟩⟩⟩⟩⟩⟩⟩⟩⟩⟩⟩⟩⟩⟩⟩⟩⟩⟩⟩⟩⟩⟩⟩⟩⟩⟩⟩⟩
theorem fd_x5 : fx_Tab "FoldedStrips$Strip" fd_TG fd_cl fd_CT5 fd_CL5 fd_FT5 fd_PT5 fd_LT5 := ⟨fd_x5_1, fd_x5_2, fd_x5_3, fd_x5_4, fd_x5_5, fd_x5_6, fd_x5_7⟩
theorem fd_l5 : ∀ q ∈ fd_LT5, q.2 < 1000000 → fx_MF fd_TG fd_cl fd_G fd_y fd_b fd_PC q.2 ∧ (Jvm.Cond.methodLink "FoldedStrips$Strip" q.1 (fd_y q.2) ∈ fd_TG ∨ ((fd_G q.2).2.2.2 = none ∧ ∃ host, ("FoldedStrips$Strip", q.1, fd_y q.2, host) ∈ fd_NW)) := List.forall_mem_cons.mpr ⟨fun h => absurd h (by decide), List.forall_mem_cons.mpr ⟨fun _ => ⟨fd_m1, Or.inr ⟨rfl, "FoldedStrips", List.mem_of_getElem? (i := 0) (by decide +kernel)⟩⟩, List.forall_mem_cons.mpr ⟨fun _ => ⟨fd_m3, Or.inr ⟨rfl, "FoldedStrips", List.mem_of_getElem? (i := 1) (by decide +kernel)⟩⟩, List.forall_mem_cons.mpr ⟨fun _ => ⟨fd_m4, Or.inr ⟨rfl, "FoldedStrips", List.mem_of_getElem? (i := 2) (by decide +kernel)⟩⟩, List.forall_mem_cons.mpr ⟨fun _ => ⟨fd_m5, Or.inr ⟨rfl, "FoldedStrips", List.mem_of_getElem? (i := 3) (by decide +kernel)⟩⟩, List.forall_mem_cons.mpr ⟨fun _ => ⟨fd_m82, Or.inl (fd_mem 286 (by decide +kernel))⟩, List.forall_mem_cons.mpr ⟨fun _ => ⟨fd_m182, Or.inl (fd_mem 297 (by decide +kernel))⟩, List.forall_mem_cons.mpr ⟨fun _ => ⟨fd_m7, Or.inr ⟨rfl, "FoldedStrips", List.mem_of_getElem? (i := 5) (by decide +kernel)⟩⟩, List.forall_mem_cons.mpr ⟨fun _ => ⟨fd_m83, Or.inl (fd_mem 290 (by decide +kernel))⟩, List.forall_mem_cons.mpr ⟨fun _ => ⟨fd_m6, Or.inr ⟨rfl, "FoldedStrips", List.mem_of_getElem? (i := 4) (by decide +kernel)⟩⟩, List.forall_mem_cons.mpr ⟨fun _ => ⟨fd_m88, Or.inl (fd_mem 342 (by decide +kernel))⟩, List.forall_mem_cons.mpr ⟨fun _ => ⟨fd_m80, Or.inl (fd_mem 348 (by decide +kernel))⟩, List.forall_mem_cons.mpr ⟨fun _ => ⟨fd_m84, Or.inl (fd_mem 346 (by decide +kernel))⟩, List.forall_mem_cons.mpr ⟨fun _ => ⟨fd_m78, Or.inl (fd_mem 347 (by decide +kernel))⟩, List.forall_mem_cons.mpr ⟨fun _ => ⟨fd_m90, Or.inl (fd_mem 353 (by decide +kernel))⟩, List.forall_mem_cons.mpr ⟨fun _ => ⟨fd_m91, Or.inl (fd_mem 357 (by decide +kernel))⟩, List.forall_mem_cons.mpr ⟨fun _ => ⟨fd_m93, Or.inl (fd_mem 372 (by decide +kernel))⟩, List.forall_mem_cons.mpr ⟨fun _ => ⟨fd_m96, Or.inl (fd_mem 391 (by decide +kernel))⟩, List.forall_mem_cons.mpr ⟨fun _ => ⟨fd_m17, Or.inr ⟨rfl, "FoldedStrips", List.mem_of_getElem? (i := 6) (by decide +kernel)⟩⟩, List.forall_mem_cons.mpr ⟨fun _ => ⟨fd_m18, Or.inr ⟨rfl, "FoldedStrips", List.mem_of_getElem? (i := 7) (by decide +kernel)⟩⟩, List.forall_mem_cons.mpr ⟨fun _ => ⟨fd_m101, Or.inl (fd_mem 456 (by decide +kernel))⟩, List.forall_mem_cons.mpr ⟨fun _ => ⟨fd_m102, Or.inl (fd_mem 459 (by decide +kernel))⟩, List.forall_mem_cons.mpr ⟨fun h => absurd h (by decide), List.forall_mem_cons.mpr ⟨fun h => absurd h (by decide), List.forall_mem_cons.mpr ⟨fun _ => ⟨fd_m100, Or.inl (fd_mem 476 (by decide +kernel))⟩, List.forall_mem_cons.mpr ⟨fun _ => ⟨fd_m97, Or.inl (fd_mem 481 (by decide +kernel))⟩, List.forall_mem_cons.mpr ⟨fun _ => ⟨fd_m81, Or.inl (fd_mem 520 (by decide +kernel))⟩, List.forall_mem_cons.mpr ⟨fun _ => ⟨fd_m99, Or.inl (fd_mem 525 (by decide +kernel))⟩, List.forall_mem_cons.mpr ⟨fun _ => ⟨fd_m106, Or.inl (fd_mem 530 (by decide +kernel))⟩, List.forall_mem_cons.mpr ⟨fun _ => ⟨fd_m103, Or.inl (fd_mem 576 (by decide +kernel))⟩, fun _ h => absurd h List.not_mem_nil⟩⟩⟩⟩⟩⟩⟩⟩⟩⟩⟩⟩⟩⟩⟩⟩⟩⟩⟩⟩⟩⟩⟩⟩⟩⟩⟩⟩⟩⟩
theorem fd_x6_1 : ∀ q ∈ fd_CT6, Jvm.Cond.constant "FoldedStripsLaw" q.1 (Int32.ofInt q.2) ∈ fd_TG := fun _ h => absurd h List.not_mem_nil
theorem fd_x6_2 : ∀ q ∈ fd_CL6, Jvm.Cond.constantLong "FoldedStripsLaw" q.1 (Int64.ofInt q.2) ∈ fd_TG := List.forall_mem_cons.mpr ⟨fd_mem 1014 (by decide +kernel), fun _ h => absurd h List.not_mem_nil⟩
theorem fd_x6_3 : ∀ q ∈ fd_FT6, ∃ C T N, fd_cl[q.2.1]? = some (C, T, N) ∧ q.2.2 < N ∧ Jvm.Cond.fieldLink "FoldedStripsLaw" q.1 (T q.2.2).1 (T q.2.2).2.1 (T q.2.2).2.2.1 ∈ fd_TG := fun _ h => absurd h List.not_mem_nil
theorem fd_x6_4 : ∀ q ∈ fd_PT6, ∃ C T N, fd_cl[q.2.1]? = some (C, T, N) ∧ q.2.2 < N ∧ Jvm.Cond.fieldLink "FoldedStripsLaw" q.1 (T q.2.2).1 (T q.2.2).2.1 (T q.2.2).2.2.1 ∈ fd_TG ∧ (T q.2.2).2.2.2 = false ∧ parseFieldDescriptor (T q.2.2).2.2.1 = some .int := fun _ h => absurd h List.not_mem_nil
theorem fd_x6_5 : ∀ q ∈ fd_LT6, q.2 = 1000000 → Jvm.Cond.methodLink "FoldedStripsLaw" q.1 arraycopyName ∈ fd_TG ∧ Jvm.Cond.native arraycopyName ∈ fd_TG ∧ Jvm.Cond.static arraycopyName ∈ fd_TG ∧ Jvm.Cond.initialized "java/lang/System" ∈ fd_TG := List.forall_mem_cons.mpr ⟨fun h => absurd h (by decide), List.forall_mem_cons.mpr ⟨fun h => absurd h (by decide), List.forall_mem_cons.mpr ⟨fun h => absurd h (by decide), List.forall_mem_cons.mpr ⟨fun h => absurd h (by decide), List.forall_mem_cons.mpr ⟨fun h => absurd h (by decide), List.forall_mem_cons.mpr ⟨fun h => absurd h (by decide), List.forall_mem_cons.mpr ⟨fun h => absurd h (by decide), List.forall_mem_cons.mpr ⟨fun h => absurd h (by decide), List.forall_mem_cons.mpr ⟨fun h => absurd h (by decide), List.forall_mem_cons.mpr ⟨fun h => absurd h (by decide), List.forall_mem_cons.mpr ⟨fun h => absurd h (by decide), List.forall_mem_cons.mpr ⟨fun h => absurd h (by decide), List.forall_mem_cons.mpr ⟨fun h => absurd h (by decide), List.forall_mem_cons.mpr ⟨fun h => absurd h (by decide), List.forall_mem_cons.mpr ⟨fun h => absurd h (by decide), List.forall_mem_cons.mpr ⟨fun h => absurd h (by decide), List.forall_mem_cons.mpr ⟨fun h => absurd h (by decide), List.forall_mem_cons.mpr ⟨fun h => absurd h (by decide), List.forall_mem_cons.mpr ⟨fun h => absurd h (by decide), List.forall_mem_cons.mpr ⟨fun h => absurd h (by decide), List.forall_mem_cons.mpr ⟨fun h => absurd h (by decide), List.forall_mem_cons.mpr ⟨fun h => absurd h (by decide), List.forall_mem_cons.mpr ⟨fun h => absurd h (by decide), List.forall_mem_cons.mpr ⟨fun h => absurd h (by decide), List.forall_mem_cons.mpr ⟨fun h => absurd h (by decide), List.forall_mem_cons.mpr ⟨fun h => absurd h (by decide), List.forall_mem_cons.mpr ⟨fun h => absurd h (by decide), List.forall_mem_cons.mpr ⟨fun h => absurd h (by decide), List.forall_mem_cons.mpr ⟨fun h => absurd h (by decide), List.forall_mem_cons.mpr ⟨fun h => absurd h (by decide), List.forall_mem_cons.mpr ⟨fun h => absurd h (by decide), List.forall_mem_cons.mpr ⟨fun h => absurd h (by decide), List.forall_mem_cons.mpr ⟨fun h => absurd h (by decide), List.forall_mem_cons.mpr ⟨fun h => absurd h (by decide), List.forall_mem_cons.mpr ⟨fun h => absurd h (by decide), List.forall_mem_cons.mpr ⟨fun h => absurd h (by decide), List.forall_mem_cons.mpr ⟨fun h => absurd h (by decide), List.forall_mem_cons.mpr ⟨fun h => absurd h (by decide), List.forall_mem_cons.mpr ⟨fun h => absurd h (by decide), List.forall_mem_cons.mpr ⟨fun h => absurd h (by decide), List.forall_mem_cons.mpr ⟨fun h => absurd h (by decide), List.forall_mem_cons.mpr ⟨fun h => absurd h (by decide), List.forall_mem_cons.mpr ⟨fun h => absurd h (by decide), List.forall_mem_cons.mpr ⟨fun h => absurd h (by decide), List.forall_mem_cons.mpr ⟨fun h => absurd h (by decide), List.forall_mem_cons.mpr ⟨fun h => absurd h (by decide), fun _ h => absurd h List.not_mem_nil⟩⟩⟩⟩⟩⟩⟩⟩⟩⟩⟩⟩⟩⟩⟩⟩⟩⟩⟩⟩⟩⟩⟩⟩⟩⟩⟩⟩⟩⟩⟩⟩⟩⟩⟩⟩⟩⟩⟩⟩⟩⟩⟩⟩⟩⟩
theorem fd_x6_6 : ∀ q ∈ fd_LT6, q.2 = 1000001 → Jvm.Cond.methodLink "FoldedStripsLaw" q.1 Lib.Math.max.name ∈ fd_TG ∧ Jvm.Cond.static Lib.Math.max.name ∈ fd_TG ∧ Jvm.Cond.initialized "java/lang/Math" ∈ fd_TG ∧ Jvm.Cond.code Lib.Math.max.name Lib.Math.max.code 2 (some .int) ∈ fd_TG := List.forall_mem_cons.mpr ⟨fun h => absurd h (by decide), List.forall_mem_cons.mpr ⟨fun h => absurd h (by decide), List.forall_mem_cons.mpr ⟨fun h => absurd h (by decide), List.forall_mem_cons.mpr ⟨fun h => absurd h (by decide), List.forall_mem_cons.mpr ⟨fun h => absurd h (by decide), List.forall_mem_cons.mpr ⟨fun h => absurd h (by decide), List.forall_mem_cons.mpr ⟨fun h => absurd h (by decide), List.forall_mem_cons.mpr ⟨fun h => absurd h (by decide), List.forall_mem_cons.mpr ⟨fun h => absurd h (by decide), List.forall_mem_cons.mpr ⟨fun h => absurd h (by decide), List.forall_mem_cons.mpr ⟨fun h => absurd h (by decide), List.forall_mem_cons.mpr ⟨fun h => absurd h (by decide), List.forall_mem_cons.mpr ⟨fun h => absurd h (by decide), List.forall_mem_cons.mpr ⟨fun h => absurd h (by decide), List.forall_mem_cons.mpr ⟨fun h => absurd h (by decide), List.forall_mem_cons.mpr ⟨fun h => absurd h (by decide), List.forall_mem_cons.mpr ⟨fun h => absurd h (by decide), List.forall_mem_cons.mpr ⟨fun h => absurd h (by decide), List.forall_mem_cons.mpr ⟨fun h => absurd h (by decide), List.forall_mem_cons.mpr ⟨fun h => absurd h (by decide), List.forall_mem_cons.mpr ⟨fun h => absurd h (by decide), List.forall_mem_cons.mpr ⟨fun h => absurd h (by decide), List.forall_mem_cons.mpr ⟨fun h => absurd h (by decide), List.forall_mem_cons.mpr ⟨fun h => absurd h (by decide), List.forall_mem_cons.mpr ⟨fun h => absurd h (by decide), List.forall_mem_cons.mpr ⟨fun h => absurd h (by decide), List.forall_mem_cons.mpr ⟨fun h => absurd h (by decide), List.forall_mem_cons.mpr ⟨fun h => absurd h (by decide), List.forall_mem_cons.mpr ⟨fun h => absurd h (by decide), List.forall_mem_cons.mpr ⟨fun h => absurd h (by decide), List.forall_mem_cons.mpr ⟨fun h => absurd h (by decide), List.forall_mem_cons.mpr ⟨fun h => absurd h (by decide), List.forall_mem_cons.mpr ⟨fun h => absurd h (by decide), List.forall_mem_cons.mpr ⟨fun h => absurd h (by decide), List.forall_mem_cons.mpr ⟨fun h => absurd h (by decide), List.forall_mem_cons.mpr ⟨fun h => absurd h (by decide), List.forall_mem_cons.mpr ⟨fun h => absurd h (by decide), List.forall_mem_cons.mpr ⟨fun h => absurd h (by decide), List.forall_mem_cons.mpr ⟨fun h => absurd h (by decide), List.forall_mem_cons.mpr ⟨fun h => absurd h (by decide), List.forall_mem_cons.mpr ⟨fun h => absurd h (by decide), List.forall_mem_cons.mpr ⟨fun h => absurd h (by decide), List.forall_mem_cons.mpr ⟨fun h => absurd h (by decide), List.forall_mem_cons.mpr ⟨fun h => absurd h (by decide), List.forall_mem_cons.mpr ⟨fun h => absurd h (by decide), List.forall_mem_cons.mpr ⟨fun h => absurd h (by decide), fun _ h => absurd h List.not_mem_nil⟩⟩⟩⟩⟩⟩⟩⟩⟩⟩⟩⟩⟩⟩⟩⟩⟩⟩⟩⟩⟩⟩⟩⟩⟩⟩⟩⟩⟩⟩⟩⟩⟩⟩⟩⟩⟩⟩⟩⟩⟩⟩⟩⟩⟩⟩
theorem fd_x6_7 : ∀ q ∈ fd_LT6, q.2 = 1000002 → Jvm.Cond.methodLink "FoldedStripsLaw" q.1 Lib.Math.min.name ∈ fd_TG ∧ Jvm.Cond.static Lib.Math.min.name ∈ fd_TG ∧ Jvm.Cond.initialized "java/lang/Math" ∈ fd_TG ∧ Jvm.Cond.code Lib.Math.min.name Lib.Math.min.code 2 (some .int) ∈ fd_TG := List.forall_mem_cons.mpr ⟨fun h => absurd h (by decide), List.forall_mem_cons.mpr ⟨fun h => absurd h (by decide), List.forall_mem_cons.mpr ⟨fun h => absurd h (by decide), List.forall_mem_cons.mpr ⟨fun h => absurd h (by decide), List.forall_mem_cons.mpr ⟨fun h => absurd h (by decide), List.forall_mem_cons.mpr ⟨fun h => absurd h (by decide), List.forall_mem_cons.mpr ⟨fun h => absurd h (by decide), List.forall_mem_cons.mpr ⟨fun h => absurd h (by decide), List.forall_mem_cons.mpr ⟨fun h => absurd h (by decide), List.forall_mem_cons.mpr ⟨fun h => absurd h (by decide), List.forall_mem_cons.mpr ⟨fun h => absurd h (by decide), List.forall_mem_cons.mpr ⟨fun h => absurd h (by decide), List.forall_mem_cons.mpr ⟨fun h => absurd h (by decide), List.forall_mem_cons.mpr ⟨fun h => absurd h (by decide), List.forall_mem_cons.mpr ⟨fun h => absurd h (by decide), List.forall_mem_cons.mpr ⟨fun h => absurd h (by decide), List.forall_mem_cons.mpr ⟨fun h => absurd h (by decide), List.forall_mem_cons.mpr ⟨fun h => absurd h (by decide), List.forall_mem_cons.mpr ⟨fun h => absurd h (by decide), List.forall_mem_cons.mpr ⟨fun h => absurd h (by decide), List.forall_mem_cons.mpr ⟨fun h => absurd h (by decide), List.forall_mem_cons.mpr ⟨fun h => absurd h (by decide), List.forall_mem_cons.mpr ⟨fun h => absurd h (by decide), List.forall_mem_cons.mpr ⟨fun h => absurd h (by decide), List.forall_mem_cons.mpr ⟨fun h => absurd h (by decide), List.forall_mem_cons.mpr ⟨fun h => absurd h (by decide), List.forall_mem_cons.mpr ⟨fun h => absurd h (by decide), List.forall_mem_cons.mpr ⟨fun h => absurd h (by decide), List.forall_mem_cons.mpr ⟨fun h => absurd h (by decide), List.forall_mem_cons.mpr ⟨fun h => absurd h (by decide), List.forall_mem_cons.mpr ⟨fun h => absurd h (by decide), List.forall_mem_cons.mpr ⟨fun h => absurd h (by decide), List.forall_mem_cons.mpr ⟨fun h => absurd h (by decide), List.forall_mem_cons.mpr ⟨fun h => absurd h (by decide), List.forall_mem_cons.mpr ⟨fun h => absurd h (by decide), List.forall_mem_cons.mpr ⟨fun h => absurd h (by decide), List.forall_mem_cons.mpr ⟨fun h => absurd h (by decide), List.forall_mem_cons.mpr ⟨fun h => absurd h (by decide), List.forall_mem_cons.mpr ⟨fun h => absurd h (by decide), List.forall_mem_cons.mpr ⟨fun h => absurd h (by decide), List.forall_mem_cons.mpr ⟨fun h => absurd h (by decide), List.forall_mem_cons.mpr ⟨fun h => absurd h (by decide), List.forall_mem_cons.mpr ⟨fun h => absurd h (by decide), List.forall_mem_cons.mpr ⟨fun h => absurd h (by decide), List.forall_mem_cons.mpr ⟨fun h => absurd h (by decide), List.forall_mem_cons.mpr ⟨fun h => absurd h (by decide), fun _ h => absurd h List.not_mem_nil⟩⟩⟩⟩⟩⟩⟩⟩⟩⟩⟩⟩⟩⟩⟩⟩⟩⟩⟩⟩⟩⟩⟩⟩⟩⟩⟩⟩⟩⟩⟩⟩⟩⟩⟩⟩⟩⟩⟩⟩⟩⟩⟩⟩⟩⟩
theorem fd_x6 : fx_Tab "FoldedStripsLaw" fd_TG fd_cl fd_CT6 fd_CL6 fd_FT6 fd_PT6 fd_LT6 := ⟨fd_x6_1, fd_x6_2, fd_x6_3, fd_x6_4, fd_x6_5, fd_x6_6, fd_x6_7⟩
theorem fd_l6 : ∀ q ∈ fd_LT6, q.2 < 1000000 → fx_MF fd_TG fd_cl fd_G fd_y fd_b fd_PC q.2 ∧ (Jvm.Cond.methodLink "FoldedStripsLaw" q.1 (fd_y q.2) ∈ fd_TG ∨ ((fd_G q.2).2.2.2 = none ∧ ∃ host, ("FoldedStripsLaw", q.1, fd_y q.2, host) ∈ fd_NW)) := List.forall_mem_cons.mpr ⟨fun _ => ⟨fd_m0, Or.inl (fd_mem 186 (by decide +kernel))⟩, List.forall_mem_cons.mpr ⟨fun _ => ⟨fd_m137, Or.inl (fd_mem 834 (by decide +kernel))⟩, List.forall_mem_cons.mpr ⟨fun _ => ⟨fd_m8, Or.inl (fd_mem 306 (by decide +kernel))⟩, List.forall_mem_cons.mpr ⟨fun _ => ⟨fd_m114, Or.inl (fd_mem 747 (by decide +kernel))⟩, List.forall_mem_cons.mpr ⟨fun _ => ⟨fd_m9, Or.inl (fd_mem 314 (by decide +kernel))⟩, List.forall_mem_cons.mpr ⟨fun _ => ⟨fd_m122, Or.inl (fd_mem 776 (by decide +kernel))⟩, List.forall_mem_cons.mpr ⟨fun _ => ⟨fd_m10, Or.inl (fd_mem 326 (by decide +kernel))⟩, List.forall_mem_cons.mpr ⟨fun _ => ⟨fd_m123, Or.inl (fd_mem 780 (by decide +kernel))⟩, List.forall_mem_cons.mpr ⟨fun _ => ⟨fd_m11, Or.inl (fd_mem 330 (by decide +kernel))⟩, List.forall_mem_cons.mpr ⟨fun _ => ⟨fd_m125, Or.inl (fd_mem 788 (by decide +kernel))⟩, List.forall_mem_cons.mpr ⟨fun _ => ⟨fd_m12, Or.inl (fd_mem 361 (by decide +kernel))⟩, List.forall_mem_cons.mpr ⟨fun _ => ⟨fd_m133, Or.inl (fd_mem 818 (by decide +kernel))⟩, List.forall_mem_cons.mpr ⟨fun _ => ⟨fd_m14, Or.inl (fd_mem 375 (by decide +kernel))⟩, List.forall_mem_cons.mpr ⟨fun _ => ⟨fd_m134, Or.inl (fd_mem 822 (by decide +kernel))⟩, List.forall_mem_cons.mpr ⟨fun _ => ⟨fd_m15, Or.inl (fd_mem 383 (by decide +kernel))⟩, List.forall_mem_cons.mpr ⟨fun _ => ⟨fd_m136, Or.inl (fd_mem 830 (by decide +kernel))⟩, List.forall_mem_cons.mpr ⟨fun _ => ⟨fd_m16, Or.inl (fd_mem 395 (by decide +kernel))⟩, List.forall_mem_cons.mpr ⟨fun _ => ⟨fd_m148, Or.inl (fd_mem 878 (by decide +kernel))⟩, List.forall_mem_cons.mpr ⟨fun _ => ⟨fd_m19, Or.inl (fd_mem 464 (by decide +kernel))⟩, List.forall_mem_cons.mpr ⟨fun _ => ⟨fd_m156, Or.inl (fd_mem 908 (by decide +kernel))⟩, List.forall_mem_cons.mpr ⟨fun _ => ⟨fd_m20, Or.inl (fd_mem 494 (by decide +kernel))⟩, List.forall_mem_cons.mpr ⟨fun _ => ⟨fd_m161, Or.inl (fd_mem 928 (by decide +kernel))⟩, List.forall_mem_cons.mpr ⟨fun _ => ⟨fd_m22, Or.inl (fd_mem 508 (by decide +kernel))⟩, List.forall_mem_cons.mpr ⟨fun _ => ⟨fd_m163, Or.inl (fd_mem 936 (by decide +kernel))⟩, List.forall_mem_cons.mpr ⟨fun _ => ⟨fd_m23, Or.inl (fd_mem 531 (by decide +kernel))⟩, List.forall_mem_cons.mpr ⟨fun _ => ⟨fd_m166, Or.inl (fd_mem 947 (by decide +kernel))⟩, List.forall_mem_cons.mpr ⟨fun _ => ⟨fd_m24, Or.inl (fd_mem 560 (by decide +kernel))⟩, List.forall_mem_cons.mpr ⟨fun _ => ⟨fd_m168, Or.inl (fd_mem 955 (by decide +kernel))⟩, List.forall_mem_cons.mpr ⟨fun _ => ⟨fd_m26, Or.inl (fd_mem 605 (by decide +kernel))⟩, List.forall_mem_cons.mpr ⟨fun _ => ⟨fd_m171, Or.inl (fd_mem 967 (by decide +kernel))⟩, List.forall_mem_cons.mpr ⟨fun _ => ⟨fd_m28, Or.inl (fd_mem 614 (by decide +kernel))⟩, List.forall_mem_cons.mpr ⟨fun _ => ⟨fd_m174, Or.inl (fd_mem 979 (by decide +kernel))⟩, List.forall_mem_cons.mpr ⟨fun _ => ⟨fd_m30, Or.inl (fd_mem 622 (by decide +kernel))⟩, List.forall_mem_cons.mpr ⟨fun _ => ⟨fd_m175, Or.inl (fd_mem 983 (by decide +kernel))⟩, List.forall_mem_cons.mpr ⟨fun _ => ⟨fd_m31, Or.inl (fd_mem 626 (by decide +kernel))⟩, List.forall_mem_cons.mpr ⟨fun _ => ⟨fd_m176, Or.inl (fd_mem 987 (by decide +kernel))⟩, List.forall_mem_cons.mpr ⟨fun _ => ⟨fd_m32, Or.inl (fd_mem 638 (by decide +kernel))⟩, List.forall_mem_cons.mpr ⟨fun _ => ⟨fd_m177, Or.inl (fd_mem 994 (by decide +kernel))⟩, List.forall_mem_cons.mpr ⟨fun _ => ⟨fd_m33, Or.inl (fd_mem 642 (by decide +kernel))⟩, List.forall_mem_cons.mpr ⟨fun _ => ⟨fd_m178, Or.inl (fd_mem 998 (by decide +kernel))⟩, List.forall_mem_cons.mpr ⟨fun _ => ⟨fd_m34, Or.inl (fd_mem 646 (by decide +kernel))⟩, List.forall_mem_cons.mpr ⟨fun _ => ⟨fd_m179, Or.inl (fd_mem 1002 (by decide +kernel))⟩, List.forall_mem_cons.mpr ⟨fun _ => ⟨fd_m35, Or.inl (fd_mem 654 (by decide +kernel))⟩, List.forall_mem_cons.mpr ⟨fun _ => ⟨fd_m180, Or.inl (fd_mem 1006 (by decide +kernel))⟩, List.forall_mem_cons.mpr ⟨fun _ => ⟨fd_m37, Or.inl (fd_mem 667 (by decide +kernel))⟩, List.forall_mem_cons.mpr ⟨fun _ => ⟨fd_m181, Or.inl (fd_mem 1010 (by decide +kernel))⟩, fun _ h => absurd h List.not_mem_nil⟩⟩⟩⟩⟩⟩⟩⟩⟩⟩⟩⟩⟩⟩⟩⟩⟩⟩⟩⟩⟩⟩⟩⟩⟩⟩⟩⟩⟩⟩⟩⟩⟩⟩⟩⟩⟩⟩⟩⟩⟩⟩⟩⟩⟩⟩
theorem fd_x7_1 : ∀ q ∈ fd_CT7, Jvm.Cond.constant "FoldedStripsModel" q.1 (Int32.ofInt q.2) ∈ fd_TG := fun _ h => absurd h List.not_mem_nil
theorem fd_x7_2 : ∀ q ∈ fd_CL7, Jvm.Cond.constantLong "FoldedStripsModel" q.1 (Int64.ofInt q.2) ∈ fd_TG := List.forall_mem_cons.mpr ⟨fd_mem 991 (by decide +kernel), List.forall_mem_cons.mpr ⟨fd_mem 992 (by decide +kernel), List.forall_mem_cons.mpr ⟨fd_mem 993 (by decide +kernel), fun _ h => absurd h List.not_mem_nil⟩⟩⟩
theorem fd_x7_3 : ∀ q ∈ fd_FT7, ∃ C T N, fd_cl[q.2.1]? = some (C, T, N) ∧ q.2.2 < N ∧ Jvm.Cond.fieldLink "FoldedStripsModel" q.1 (T q.2.2).1 (T q.2.2).2.1 (T q.2.2).2.2.1 ∈ fd_TG := List.forall_mem_cons.mpr ⟨⟨fd_R6, fd_T6, 20, rfl, by decide, fd_mem 686 (by decide +kernel)⟩, List.forall_mem_cons.mpr ⟨⟨fd_R6, fd_T6, 20, rfl, by decide, fd_mem 702 (by decide +kernel)⟩, List.forall_mem_cons.mpr ⟨⟨fd_R6, fd_T6, 20, rfl, by decide, fd_mem 689 (by decide +kernel)⟩, List.forall_mem_cons.mpr ⟨⟨fd_R6, fd_T6, 20, rfl, by decide, fd_mem 687 (by decide +kernel)⟩, List.forall_mem_cons.mpr ⟨⟨fd_R6, fd_T6, 20, rfl, by decide, fd_mem 703 (by decide +kernel)⟩, List.forall_mem_cons.mpr ⟨⟨fd_R6, fd_T6, 20, rfl, by decide, fd_mem 698 (by decide +kernel)⟩, List.forall_mem_cons.mpr ⟨⟨fd_R6, fd_T6, 20, rfl, by decide, fd_mem 704 (by decide +kernel)⟩, List.forall_mem_cons.mpr ⟨⟨fd_R6, fd_T6, 20, rfl, by decide, fd_mem 701 (by decide +kernel)⟩, List.forall_mem_cons.mpr ⟨⟨fd_R6, fd_T6, 20, rfl, by decide, fd_mem 699 (by decide +kernel)⟩, List.forall_mem_cons.mpr ⟨⟨fd_R6, fd_T6, 20, rfl, by decide, fd_mem 705 (by decide +kernel)⟩, List.forall_mem_cons.mpr ⟨⟨fd_R6, fd_T6, 20, rfl, by decide, fd_mem 692 (by decide +kernel)⟩, List.forall_mem_cons.mpr ⟨⟨fd_R6, fd_T6, 20, rfl, by decide, fd_mem 700 (by decide +kernel)⟩, List.forall_mem_cons.mpr ⟨⟨fd_R6, fd_T6, 20, rfl, by decide, fd_mem 693 (by decide +kernel)⟩, List.forall_mem_cons.mpr ⟨⟨fd_R6, fd_T6, 20, rfl, by decide, fd_mem 695 (by decide +kernel)⟩, List.forall_mem_cons.mpr ⟨⟨fd_R6, fd_T6, 20, rfl, by decide, fd_mem 694 (by decide +kernel)⟩, List.forall_mem_cons.mpr ⟨⟨fd_R6, fd_T6, 20, rfl, by decide, fd_mem 696 (by decide +kernel)⟩, List.forall_mem_cons.mpr ⟨⟨fd_R6, fd_T6, 20, rfl, by decide, fd_mem 697 (by decide +kernel)⟩, List.forall_mem_cons.mpr ⟨⟨fd_R6, fd_T6, 20, rfl, by decide, fd_mem 688 (by decide +kernel)⟩, List.forall_mem_cons.mpr ⟨⟨fd_R6, fd_T6, 20, rfl, by decide, fd_mem 690 (by decide +kernel)⟩, List.forall_mem_cons.mpr ⟨⟨fd_R6, fd_T6, 20, rfl, by decide, fd_mem 691 (by decide +kernel)⟩, fun _ h => absurd h List.not_mem_nil⟩⟩⟩⟩⟩⟩⟩⟩⟩⟩⟩⟩⟩⟩⟩⟩⟩⟩⟩⟩
theorem fd_x7_4 : ∀ q ∈ fd_PT7, ∃ C T N, fd_cl[q.2.1]? = some (C, T, N) ∧ q.2.2 < N ∧ Jvm.Cond.fieldLink "FoldedStripsModel" q.1 (T q.2.2).1 (T q.2.2).2.1 (T q.2.2).2.2.1 ∈ fd_TG ∧ (T q.2.2).2.2.2 = false ∧ parseFieldDescriptor (T q.2.2).2.2.1 = some .int := List.forall_mem_cons.mpr ⟨⟨fd_R6, fd_T6, 20, rfl, by decide, fd_mem 702 (by decide +kernel), rfl, by decide +kernel⟩, List.forall_mem_cons.mpr ⟨⟨fd_R6, fd_T6, 20, rfl, by decide, fd_mem 701 (by decide +kernel), rfl, by decide +kernel⟩, List.forall_mem_cons.mpr ⟨⟨fd_R6, fd_T6, 20, rfl, by decide, fd_mem 704 (by decide +kernel), rfl, by decide +kernel⟩, List.forall_mem_cons.mpr ⟨⟨fd_R6, fd_T6, 20, rfl, by decide, fd_mem 703 (by decide +kernel), rfl, by decide +kernel⟩, List.forall_mem_cons.mpr ⟨⟨fd_R6, fd_T6, 20, rfl, by decide, fd_mem 705 (by decide +kernel), rfl, by decide +kernel⟩, List.forall_mem_cons.mpr ⟨⟨fd_R6, fd_T6, 20, rfl, by decide, fd_mem 700 (by decide +kernel), rfl, by decide +kernel⟩, fun _ h => absurd h List.not_mem_nil⟩⟩⟩⟩⟩⟩
theorem fd_x7_5 : ∀ q ∈ fd_LT7, q.2 = 1000000 → Jvm.Cond.methodLink "FoldedStripsModel" q.1 arraycopyName ∈ fd_TG ∧ Jvm.Cond.native arraycopyName ∈ fd_TG ∧ Jvm.Cond.static arraycopyName ∈ fd_TG ∧ Jvm.Cond.initialized "java/lang/System" ∈ fd_TG := List.forall_mem_cons.mpr ⟨fun h => absurd h (by decide), List.forall_mem_cons.mpr ⟨fun h => absurd h (by decide), List.forall_mem_cons.mpr ⟨fun h => absurd h (by decide), List.forall_mem_cons.mpr ⟨fun h => absurd h (by decide), List.forall_mem_cons.mpr ⟨fun h => absurd h (by decide), List.forall_mem_cons.mpr ⟨fun h => absurd h (by decide), List.forall_mem_cons.mpr ⟨fun h => absurd h (by decide), List.forall_mem_cons.mpr ⟨fun h => absurd h (by decide), List.forall_mem_cons.mpr ⟨fun h => absurd h (by decide), List.forall_mem_cons.mpr ⟨fun h => absurd h (by decide), List.forall_mem_cons.mpr ⟨fun h => absurd h (by decide), List.forall_mem_cons.mpr ⟨fun h => absurd h (by decide), List.forall_mem_cons.mpr ⟨fun h => absurd h (by decide), List.forall_mem_cons.mpr ⟨fun h => absurd h (by decide), List.forall_mem_cons.mpr ⟨fun h => absurd h (by decide), List.forall_mem_cons.mpr ⟨fun h => absurd h (by decide), List.forall_mem_cons.mpr ⟨fun h => absurd h (by decide), List.forall_mem_cons.mpr ⟨fun h => absurd h (by decide), List.forall_mem_cons.mpr ⟨fun h => absurd h (by decide), List.forall_mem_cons.mpr ⟨fun h => absurd h (by decide), List.forall_mem_cons.mpr ⟨fun h => absurd h (by decide), List.forall_mem_cons.mpr ⟨fun h => absurd h (by decide), List.forall_mem_cons.mpr ⟨fun h => absurd h (by decide), List.forall_mem_cons.mpr ⟨fun h => absurd h (by decide), List.forall_mem_cons.mpr ⟨fun h => absurd h (by decide), List.forall_mem_cons.mpr ⟨fun h => absurd h (by decide), List.forall_mem_cons.mpr ⟨fun h => absurd h (by decide), List.forall_mem_cons.mpr ⟨fun h => absurd h (by decide), List.forall_mem_cons.mpr ⟨fun h => absurd h (by decide), List.forall_mem_cons.mpr ⟨fun h => absurd h (by decide), List.forall_mem_cons.mpr ⟨fun h => absurd h (by decide), List.forall_mem_cons.mpr ⟨fun h => absurd h (by decide), List.forall_mem_cons.mpr ⟨fun h => absurd h (by decide), List.forall_mem_cons.mpr ⟨fun h => absurd h (by decide), List.forall_mem_cons.mpr ⟨fun h => absurd h (by decide), List.forall_mem_cons.mpr ⟨fun h => absurd h (by decide), List.forall_mem_cons.mpr ⟨fun h => absurd h (by decide), List.forall_mem_cons.mpr ⟨fun h => absurd h (by decide), List.forall_mem_cons.mpr ⟨fun h => absurd h (by decide), List.forall_mem_cons.mpr ⟨fun h => absurd h (by decide), List.forall_mem_cons.mpr ⟨fun h => absurd h (by decide), List.forall_mem_cons.mpr ⟨fun h => absurd h (by decide), List.forall_mem_cons.mpr ⟨fun h => absurd h (by decide), List.forall_mem_cons.mpr ⟨fun h => absurd h (by decide), List.forall_mem_cons.mpr ⟨fun h => absurd h (by decide), fun _ h => absurd h List.not_mem_nil⟩⟩⟩⟩⟩⟩⟩⟩⟩⟩⟩⟩⟩⟩⟩⟩⟩⟩⟩⟩⟩⟩⟩⟩⟩⟩⟩⟩⟩⟩⟩⟩⟩⟩⟩⟩⟩⟩⟩⟩⟩⟩⟩⟩⟩
theorem fd_x7_6 : ∀ q ∈ fd_LT7, q.2 = 1000001 → Jvm.Cond.methodLink "FoldedStripsModel" q.1 Lib.Math.max.name ∈ fd_TG ∧ Jvm.Cond.static Lib.Math.max.name ∈ fd_TG ∧ Jvm.Cond.initialized "java/lang/Math" ∈ fd_TG ∧ Jvm.Cond.code Lib.Math.max.name Lib.Math.max.code 2 (some .int) ∈ fd_TG := List.forall_mem_cons.mpr ⟨fun h => absurd h (by decide), List.forall_mem_cons.mpr ⟨fun h => absurd h (by decide), List.forall_mem_cons.mpr ⟨fun h => absurd h (by decide), List.forall_mem_cons.mpr ⟨fun h => absurd h (by decide), List.forall_mem_cons.mpr ⟨fun h => absurd h (by decide), List.forall_mem_cons.mpr ⟨fun h => absurd h (by decide), List.forall_mem_cons.mpr ⟨fun h => absurd h (by decide), List.forall_mem_cons.mpr ⟨fun h => absurd h (by decide), List.forall_mem_cons.mpr ⟨fun h => absurd h (by decide), List.forall_mem_cons.mpr ⟨fun h => absurd h (by decide), List.forall_mem_cons.mpr ⟨fun h => absurd h (by decide), List.forall_mem_cons.mpr ⟨fun h => absurd h (by decide), List.forall_mem_cons.mpr ⟨fun h => absurd h (by decide), List.forall_mem_cons.mpr ⟨fun h => absurd h (by decide), List.forall_mem_cons.mpr ⟨fun h => absurd h (by decide), List.forall_mem_cons.mpr ⟨fun h => absurd h (by decide), List.forall_mem_cons.mpr ⟨fun h => absurd h (by decide), List.forall_mem_cons.mpr ⟨fun h => absurd h (by decide), List.forall_mem_cons.mpr ⟨fun h => absurd h (by decide), List.forall_mem_cons.mpr ⟨fun h => absurd h (by decide), List.forall_mem_cons.mpr ⟨fun h => absurd h (by decide), List.forall_mem_cons.mpr ⟨fun h => absurd h (by decide), List.forall_mem_cons.mpr ⟨fun h => absurd h (by decide), List.forall_mem_cons.mpr ⟨fun h => absurd h (by decide), List.forall_mem_cons.mpr ⟨fun h => absurd h (by decide), List.forall_mem_cons.mpr ⟨fun h => absurd h (by decide), List.forall_mem_cons.mpr ⟨fun h => absurd h (by decide), List.forall_mem_cons.mpr ⟨fun h => absurd h (by decide), List.forall_mem_cons.mpr ⟨fun h => absurd h (by decide), List.forall_mem_cons.mpr ⟨fun h => absurd h (by decide), List.forall_mem_cons.mpr ⟨fun h => absurd h (by decide), List.forall_mem_cons.mpr ⟨fun h => absurd h (by decide), List.forall_mem_cons.mpr ⟨fun h => absurd h (by decide), List.forall_mem_cons.mpr ⟨fun h => absurd h (by decide), List.forall_mem_cons.mpr ⟨fun h => absurd h (by decide), List.forall_mem_cons.mpr ⟨fun h => absurd h (by decide), List.forall_mem_cons.mpr ⟨fun h => absurd h (by decide), List.forall_mem_cons.mpr ⟨fun h => absurd h (by decide), List.forall_mem_cons.mpr ⟨fun h => absurd h (by decide), List.forall_mem_cons.mpr ⟨fun h => absurd h (by decide), List.forall_mem_cons.mpr ⟨fun h => absurd h (by decide), List.forall_mem_cons.mpr ⟨fun h => absurd h (by decide), List.forall_mem_cons.mpr ⟨fun h => absurd h (by decide), List.forall_mem_cons.mpr ⟨fun h => absurd h (by decide), List.forall_mem_cons.mpr ⟨fun h => absurd h (by decide), fun _ h => absurd h List.not_mem_nil⟩⟩⟩⟩⟩⟩⟩⟩⟩⟩⟩⟩⟩⟩⟩⟩⟩⟩⟩⟩⟩⟩⟩⟩⟩⟩⟩⟩⟩⟩⟩⟩⟩⟩⟩⟩⟩⟩⟩⟩⟩⟩⟩⟩⟩
theorem fd_x7_7 : ∀ q ∈ fd_LT7, q.2 = 1000002 → Jvm.Cond.methodLink "FoldedStripsModel" q.1 Lib.Math.min.name ∈ fd_TG ∧ Jvm.Cond.static Lib.Math.min.name ∈ fd_TG ∧ Jvm.Cond.initialized "java/lang/Math" ∈ fd_TG ∧ Jvm.Cond.code Lib.Math.min.name Lib.Math.min.code 2 (some .int) ∈ fd_TG := List.forall_mem_cons.mpr ⟨fun h => absurd h (by decide), List.forall_mem_cons.mpr ⟨fun h => absurd h (by decide), List.forall_mem_cons.mpr ⟨fun h => absurd h (by decide), List.forall_mem_cons.mpr ⟨fun h => absurd h (by decide), List.forall_mem_cons.mpr ⟨fun h => absurd h (by decide), List.forall_mem_cons.mpr ⟨fun h => absurd h (by decide), List.forall_mem_cons.mpr ⟨fun h => absurd h (by decide), List.forall_mem_cons.mpr ⟨fun h => absurd h (by decide), List.forall_mem_cons.mpr ⟨fun h => absurd h (by decide), List.forall_mem_cons.mpr ⟨fun h => absurd h (by decide), List.forall_mem_cons.mpr ⟨fun h => absurd h (by decide), List.forall_mem_cons.mpr ⟨fun h => absurd h (by decide), List.forall_mem_cons.mpr ⟨fun h => absurd h (by decide), List.forall_mem_cons.mpr ⟨fun h => absurd h (by decide), List.forall_mem_cons.mpr ⟨fun h => absurd h (by decide), List.forall_mem_cons.mpr ⟨fun h => absurd h (by decide), List.forall_mem_cons.mpr ⟨fun h => absurd h (by decide), List.forall_mem_cons.mpr ⟨fun h => absurd h (by decide), List.forall_mem_cons.mpr ⟨fun h => absurd h (by decide), List.forall_mem_cons.mpr ⟨fun h => absurd h (by decide), List.forall_mem_cons.mpr ⟨fun h => absurd h (by decide), List.forall_mem_cons.mpr ⟨fun h => absurd h (by decide), List.forall_mem_cons.mpr ⟨fun h => absurd h (by decide), List.forall_mem_cons.mpr ⟨fun h => absurd h (by decide), List.forall_mem_cons.mpr ⟨fun h => absurd h (by decide), List.forall_mem_cons.mpr ⟨fun h => absurd h (by decide), List.forall_mem_cons.mpr ⟨fun h => absurd h (by decide), List.forall_mem_cons.mpr ⟨fun h => absurd h (by decide), List.forall_mem_cons.mpr ⟨fun h => absurd h (by decide), List.forall_mem_cons.mpr ⟨fun h => absurd h (by decide), List.forall_mem_cons.mpr ⟨fun h => absurd h (by decide), List.forall_mem_cons.mpr ⟨fun h => absurd h (by decide), List.forall_mem_cons.mpr ⟨fun h => absurd h (by decide), List.forall_mem_cons.mpr ⟨fun h => absurd h (by decide), List.forall_mem_cons.mpr ⟨fun h => absurd h (by decide), List.forall_mem_cons.mpr ⟨fun h => absurd h (by decide), List.forall_mem_cons.mpr ⟨fun h => absurd h (by decide), List.forall_mem_cons.mpr ⟨fun h => absurd h (by decide), List.forall_mem_cons.mpr ⟨fun h => absurd h (by decide), List.forall_mem_cons.mpr ⟨fun h => absurd h (by decide), List.forall_mem_cons.mpr ⟨fun h => absurd h (by decide), List.forall_mem_cons.mpr ⟨fun h => absurd h (by decide), List.forall_mem_cons.mpr ⟨fun h => absurd h (by decide), List.forall_mem_cons.mpr ⟨fun h => absurd h (by decide), List.forall_mem_cons.mpr ⟨fun h => absurd h (by decide), fun _ h => absurd h List.not_mem_nil⟩⟩⟩⟩⟩⟩⟩⟩⟩⟩⟩⟩⟩⟩⟩⟩⟩⟩⟩⟩⟩⟩⟩⟩⟩⟩⟩⟩⟩⟩⟩⟩⟩⟩⟩⟩⟩⟩⟩⟩⟩⟩⟩⟩⟩
theorem fd_x7 : fx_Tab "FoldedStripsModel" fd_TG fd_cl fd_CT7 fd_CL7 fd_FT7 fd_PT7 fd_LT7 := ⟨fd_x7_1, fd_x7_2, fd_x7_3, fd_x7_4, fd_x7_5, fd_x7_6, fd_x7_7⟩
theorem fd_l7 : ∀ q ∈ fd_LT7, q.2 < 1000000 → fx_MF fd_TG fd_cl fd_G fd_y fd_b fd_PC q.2 ∧ (Jvm.Cond.methodLink "FoldedStripsModel" q.1 (fd_y q.2) ∈ fd_TG ∨ ((fd_G q.2).2.2.2 = none ∧ ∃ host, ("FoldedStripsModel", q.1, fd_y q.2, host) ∈ fd_NW)) := List.forall_mem_cons.mpr ⟨fun _ => ⟨fd_m115, Or.inl (fd_mem 751 (by decide +kernel))⟩, List.forall_mem_cons.mpr ⟨fun _ => ⟨fd_m118, Or.inl (fd_mem 760 (by decide +kernel))⟩, List.forall_mem_cons.mpr ⟨fun _ => ⟨fd_m119, Or.inl (fd_mem 764 (by decide +kernel))⟩, List.forall_mem_cons.mpr ⟨fun _ => ⟨fd_m120, Or.inl (fd_mem 768 (by decide +kernel))⟩, List.forall_mem_cons.mpr ⟨fun _ => ⟨fd_m121, Or.inl (fd_mem 772 (by decide +kernel))⟩, List.forall_mem_cons.mpr ⟨fun _ => ⟨fd_m116, Or.inl (fd_mem 754 (by decide +kernel))⟩, List.forall_mem_cons.mpr ⟨fun _ => ⟨fd_m117, Or.inl (fd_mem 757 (by decide +kernel))⟩, List.forall_mem_cons.mpr ⟨fun _ => ⟨fd_m124, Or.inl (fd_mem 784 (by decide +kernel))⟩, List.forall_mem_cons.mpr ⟨fun _ => ⟨fd_m126, Or.inl (fd_mem 792 (by decide +kernel))⟩, List.forall_mem_cons.mpr ⟨fun _ => ⟨fd_m127, Or.inl (fd_mem 796 (by decide +kernel))⟩, List.forall_mem_cons.mpr ⟨fun _ => ⟨fd_m129, Or.inl (fd_mem 803 (by decide +kernel))⟩, List.forall_mem_cons.mpr ⟨fun _ => ⟨fd_m128, Or.inl (fd_mem 800 (by decide +kernel))⟩, List.forall_mem_cons.mpr ⟨fun _ => ⟨fd_m130, Or.inl (fd_mem 807 (by decide +kernel))⟩, List.forall_mem_cons.mpr ⟨fun _ => ⟨fd_m131, Or.inl (fd_mem 811 (by decide +kernel))⟩, List.forall_mem_cons.mpr ⟨fun _ => ⟨fd_m132, Or.inl (fd_mem 815 (by decide +kernel))⟩, List.forall_mem_cons.mpr ⟨fun _ => ⟨fd_m135, Or.inl (fd_mem 826 (by decide +kernel))⟩, List.forall_mem_cons.mpr ⟨fun _ => ⟨fd_m138, Or.inl (fd_mem 838 (by decide +kernel))⟩, List.forall_mem_cons.mpr ⟨fun _ => ⟨fd_m139, Or.inl (fd_mem 842 (by decide +kernel))⟩, List.forall_mem_cons.mpr ⟨fun _ => ⟨fd_m147, Or.inl (fd_mem 874 (by decide +kernel))⟩, List.forall_mem_cons.mpr ⟨fun _ => ⟨fd_m146, Or.inl (fd_mem 870 (by decide +kernel))⟩, List.forall_mem_cons.mpr ⟨fun _ => ⟨fd_m140, Or.inl (fd_mem 846 (by decide +kernel))⟩, List.forall_mem_cons.mpr ⟨fun _ => ⟨fd_m141, Or.inl (fd_mem 850 (by decide +kernel))⟩, List.forall_mem_cons.mpr ⟨fun _ => ⟨fd_m144, Or.inl (fd_mem 862 (by decide +kernel))⟩, List.forall_mem_cons.mpr ⟨fun _ => ⟨fd_m145, Or.inl (fd_mem 866 (by decide +kernel))⟩, List.forall_mem_cons.mpr ⟨fun _ => ⟨fd_m142, Or.inl (fd_mem 854 (by decide +kernel))⟩, List.forall_mem_cons.mpr ⟨fun _ => ⟨fd_m143, Or.inl (fd_mem 858 (by decide +kernel))⟩, List.forall_mem_cons.mpr ⟨fun _ => ⟨fd_m149, Or.inl (fd_mem 882 (by decide +kernel))⟩, List.forall_mem_cons.mpr ⟨fun _ => ⟨fd_m153, Or.inl (fd_mem 898 (by decide +kernel))⟩, List.forall_mem_cons.mpr ⟨fun _ => ⟨fd_m150, Or.inl (fd_mem 886 (by decide +kernel))⟩, List.forall_mem_cons.mpr ⟨fun _ => ⟨fd_m151, Or.inl (fd_mem 890 (by decide +kernel))⟩, List.forall_mem_cons.mpr ⟨fun _ => ⟨fd_m152, Or.inl (fd_mem 894 (by decide +kernel))⟩, List.forall_mem_cons.mpr ⟨fun _ => ⟨fd_m154, Or.inl (fd_mem 902 (by decide +kernel))⟩, List.forall_mem_cons.mpr ⟨fun _ => ⟨fd_m155, Or.inl (fd_mem 905 (by decide +kernel))⟩, List.forall_mem_cons.mpr ⟨fun _ => ⟨fd_m157, Or.inl (fd_mem 912 (by decide +kernel))⟩, List.forall_mem_cons.mpr ⟨fun _ => ⟨fd_m158, Or.inl (fd_mem 916 (by decide +kernel))⟩, List.forall_mem_cons.mpr ⟨fun _ => ⟨fd_m159, Or.inl (fd_mem 920 (by decide +kernel))⟩, List.forall_mem_cons.mpr ⟨fun _ => ⟨fd_m160, Or.inl (fd_mem 924 (by decide +kernel))⟩, List.forall_mem_cons.mpr ⟨fun _ => ⟨fd_m162, Or.inl (fd_mem 932 (by decide +kernel))⟩, List.forall_mem_cons.mpr ⟨fun _ => ⟨fd_m164, Or.inl (fd_mem 940 (by decide +kernel))⟩, List.forall_mem_cons.mpr ⟨fun _ => ⟨fd_m165, Or.inl (fd_mem 944 (by decide +kernel))⟩, List.forall_mem_cons.mpr ⟨fun _ => ⟨fd_m167, Or.inl (fd_mem 951 (by decide +kernel))⟩, List.forall_mem_cons.mpr ⟨fun _ => ⟨fd_m169, Or.inl (fd_mem 959 (by decide +kernel))⟩, List.forall_mem_cons.mpr ⟨fun _ => ⟨fd_m170, Or.inl (fd_mem 963 (by decide +kernel))⟩, List.forall_mem_cons.mpr ⟨fun _ => ⟨fd_m172, Or.inl (fd_mem 971 (by decide +kernel))⟩, List.forall_mem_cons.mpr ⟨fun _ => ⟨fd_m173, Or.inl (fd_mem 975 (by decide +kernel))⟩, fun _ h => absurd h List.not_mem_nil⟩⟩⟩⟩⟩⟩⟩⟩⟩⟩⟩⟩⟩⟩⟩⟩⟩⟩⟩⟩⟩⟩⟩⟩⟩⟩⟩⟩⟩⟩⟩⟩⟩⟩⟩⟩⟩⟩⟩⟩⟩⟩⟩⟩⟩
theorem fd_x8_1 : ∀ q ∈ fd_CT8, Jvm.Cond.constant "java/lang/Integer" q.1 (Int32.ofInt q.2) ∈ fd_TG := List.forall_mem_cons.mpr ⟨fd_mem 300 (by decide +kernel), List.forall_mem_cons.mpr ⟨fd_mem 301 (by decide +kernel), List.forall_mem_cons.mpr ⟨fd_mem 302 (by decide +kernel), fun _ h => absurd h List.not_mem_nil⟩⟩⟩
theorem fd_x8_2 : ∀ q ∈ fd_CL8, Jvm.Cond.constantLong "java/lang/Integer" q.1 (Int64.ofInt q.2) ∈ fd_TG := fun _ h => absurd h List.not_mem_nil
theorem fd_x8_3 : ∀ q ∈ fd_FT8, ∃ C T N, fd_cl[q.2.1]? = some (C, T, N) ∧ q.2.2 < N ∧ Jvm.Cond.fieldLink "java/lang/Integer" q.1 (T q.2.2).1 (T q.2.2).2.1 (T q.2.2).2.2.1 ∈ fd_TG := fun _ h => absurd h List.not_mem_nil
theorem fd_x8_4 : ∀ q ∈ fd_PT8, ∃ C T N, fd_cl[q.2.1]? = some (C, T, N) ∧ q.2.2 < N ∧ Jvm.Cond.fieldLink "java/lang/Integer" q.1 (T q.2.2).1 (T q.2.2).2.1 (T q.2.2).2.2.1 ∈ fd_TG ∧ (T q.2.2).2.2.2 = false ∧ parseFieldDescriptor (T q.2.2).2.2.1 = some .int := fun _ h => absurd h List.not_mem_nil
theorem fd_x8_5 : ∀ q ∈ fd_LT8, q.2 = 1000000 → Jvm.Cond.methodLink "java/lang/Integer" q.1 arraycopyName ∈ fd_TG ∧ Jvm.Cond.native arraycopyName ∈ fd_TG ∧ Jvm.Cond.static arraycopyName ∈ fd_TG ∧ Jvm.Cond.initialized "java/lang/System" ∈ fd_TG := fun _ h => absurd h List.not_mem_nil
theorem fd_x8_6 : ∀ q ∈ fd_LT8, q.2 = 1000001 → Jvm.Cond.methodLink "java/lang/Integer" q.1 Lib.Math.max.name ∈ fd_TG ∧ Jvm.Cond.static Lib.Math.max.name ∈ fd_TG ∧ Jvm.Cond.initialized "java/lang/Math" ∈ fd_TG ∧ Jvm.Cond.code Lib.Math.max.name Lib.Math.max.code 2 (some .int) ∈ fd_TG := fun _ h => absurd h List.not_mem_nil
theorem fd_x8_7 : ∀ q ∈ fd_LT8, q.2 = 1000002 → Jvm.Cond.methodLink "java/lang/Integer" q.1 Lib.Math.min.name ∈ fd_TG ∧ Jvm.Cond.static Lib.Math.min.name ∈ fd_TG ∧ Jvm.Cond.initialized "java/lang/Math" ∈ fd_TG ∧ Jvm.Cond.code Lib.Math.min.name Lib.Math.min.code 2 (some .int) ∈ fd_TG := fun _ h => absurd h List.not_mem_nil
theorem fd_x8 : fx_Tab "java/lang/Integer" fd_TG fd_cl fd_CT8 fd_CL8 fd_FT8 fd_PT8 fd_LT8 := ⟨fd_x8_1, fd_x8_2, fd_x8_3, fd_x8_4, fd_x8_5, fd_x8_6, fd_x8_7⟩
theorem fd_l8 : ∀ q ∈ fd_LT8, q.2 < 1000000 → fx_MF fd_TG fd_cl fd_G fd_y fd_b fd_PC q.2 ∧ (Jvm.Cond.methodLink "java/lang/Integer" q.1 (fd_y q.2) ∈ fd_TG ∨ ((fd_G q.2).2.2.2 = none ∧ ∃ host, ("java/lang/Integer", q.1, fd_y q.2, host) ∈ fd_NW)) := fun _ h => absurd h List.not_mem_nil
theorem fd_x9_1 : ∀ q ∈ fd_CT9, Jvm.Cond.constant "java/util/Arrays" q.1 (Int32.ofInt q.2) ∈ fd_TG := fun _ h => absurd h List.not_mem_nil
theorem fd_x9_2 : ∀ q ∈ fd_CL9, Jvm.Cond.constantLong "java/util/Arrays" q.1 (Int64.ofInt q.2) ∈ fd_TG := fun _ h => absurd h List.not_mem_nil
theorem fd_x9_3 : ∀ q ∈ fd_FT9, ∃ C T N, fd_cl[q.2.1]? = some (C, T, N) ∧ q.2.2 < N ∧ Jvm.Cond.fieldLink "java/util/Arrays" q.1 (T q.2.2).1 (T q.2.2).2.1 (T q.2.2).2.2.1 ∈ fd_TG := fun _ h => absurd h List.not_mem_nil
theorem fd_x9_4 : ∀ q ∈ fd_PT9, ∃ C T N, fd_cl[q.2.1]? = some (C, T, N) ∧ q.2.2 < N ∧ Jvm.Cond.fieldLink "java/util/Arrays" q.1 (T q.2.2).1 (T q.2.2).2.1 (T q.2.2).2.2.1 ∈ fd_TG ∧ (T q.2.2).2.2.2 = false ∧ parseFieldDescriptor (T q.2.2).2.2.1 = some .int := fun _ h => absurd h List.not_mem_nil
theorem fd_x9_5 : ∀ q ∈ fd_LT9, q.2 = 1000000 → Jvm.Cond.methodLink "java/util/Arrays" q.1 arraycopyName ∈ fd_TG ∧ Jvm.Cond.native arraycopyName ∈ fd_TG ∧ Jvm.Cond.static arraycopyName ∈ fd_TG ∧ Jvm.Cond.initialized "java/lang/System" ∈ fd_TG := fun _ h => absurd h List.not_mem_nil
theorem fd_x9_6 : ∀ q ∈ fd_LT9, q.2 = 1000001 → Jvm.Cond.methodLink "java/util/Arrays" q.1 Lib.Math.max.name ∈ fd_TG ∧ Jvm.Cond.static Lib.Math.max.name ∈ fd_TG ∧ Jvm.Cond.initialized "java/lang/Math" ∈ fd_TG ∧ Jvm.Cond.code Lib.Math.max.name Lib.Math.max.code 2 (some .int) ∈ fd_TG := fun _ h => absurd h List.not_mem_nil
theorem fd_x9_7 : ∀ q ∈ fd_LT9, q.2 = 1000002 → Jvm.Cond.methodLink "java/util/Arrays" q.1 Lib.Math.min.name ∈ fd_TG ∧ Jvm.Cond.static Lib.Math.min.name ∈ fd_TG ∧ Jvm.Cond.initialized "java/lang/Math" ∈ fd_TG ∧ Jvm.Cond.code Lib.Math.min.name Lib.Math.min.code 2 (some .int) ∈ fd_TG := fun _ h => absurd h List.not_mem_nil
theorem fd_x9 : fx_Tab "java/util/Arrays" fd_TG fd_cl fd_CT9 fd_CL9 fd_FT9 fd_PT9 fd_LT9 := ⟨fd_x9_1, fd_x9_2, fd_x9_3, fd_x9_4, fd_x9_5, fd_x9_6, fd_x9_7⟩
theorem fd_l9 : ∀ q ∈ fd_LT9, q.2 < 1000000 → fx_MF fd_TG fd_cl fd_G fd_y fd_b fd_PC q.2 ∧ (Jvm.Cond.methodLink "java/util/Arrays" q.1 (fd_y q.2) ∈ fd_TG ∨ ((fd_G q.2).2.2.2 = none ∧ ∃ host, ("java/util/Arrays", q.1, fd_y q.2, host) ∈ fd_NW)) := fun _ h => absurd h List.not_mem_nil
theorem fd_NWt : ∀ q ∈ fd_NW, Jvm.Cond.methodLinkNest q.1 q.2.1 q.2.2.1 q.2.2.2 ∈ lw_tbl := List.forall_mem_cons.mpr ⟨List.mem_of_getElem? (i := 256) (by decide +kernel), List.forall_mem_cons.mpr ⟨List.mem_of_getElem? (i := 257) (by decide +kernel), List.forall_mem_cons.mpr ⟨List.mem_of_getElem? (i := 272) (by decide +kernel), List.forall_mem_cons.mpr ⟨List.mem_of_getElem? (i := 283) (by decide +kernel), List.forall_mem_cons.mpr ⟨List.mem_of_getElem? (i := 294) (by decide +kernel), List.forall_mem_cons.mpr ⟨List.mem_of_getElem? (i := 303) (by decide +kernel), List.forall_mem_cons.mpr ⟨List.mem_of_getElem? (i := 403) (by decide +kernel), List.forall_mem_cons.mpr ⟨List.mem_of_getElem? (i := 430) (by decide +kernel), List.forall_mem_cons.mpr ⟨List.mem_of_getElem? (i := 437) (by decide +kernel), List.forall_mem_cons.mpr ⟨List.mem_of_getElem? (i := 438) (by decide +kernel), List.forall_mem_cons.mpr ⟨List.mem_of_getElem? (i := 443) (by decide +kernel), List.forall_mem_cons.mpr ⟨List.mem_of_getElem? (i := 665) (by decide +kernel), fun _ h => absurd h List.not_mem_nil⟩⟩⟩⟩⟩⟩⟩⟩⟩⟩⟩⟩
def fd_P (j : Nat) : Prop := (∀ (i : Nat) (mm : Instr), (fd_C j)[i]? = some mm → fx_Tab (fd_y j).cls fd_TG fd_cl (fd_CT j) (fd_CL j) (fd_FT j) (fd_PT j) (fd_LT j) ∧ ∃ (o : Instr) (len : Nat), decode (fd_b j) ((fd_PC j).getD i 0) = .ok (o, len) ∧ (fd_PC j).getD (i + 1) 0 = (fd_PC j).getD i 0 + len ∧ fx_nrm (fd_CT j) (fd_CL j) (fd_FT j) (fd_PT j) (fd_LT j) (fd_PC j) fd_G fd_RO (fd_RO j).1 (fd_RO j).2 ((fd_PC j).getD i 0) len mm o = true) ∧ (∀ (idx k : Nat), (idx, k) ∈ fd_LT j → k < 1000000 → fx_MF fd_TG fd_cl fd_G fd_y fd_b fd_PC k ∧ (Jvm.Cond.methodLink (fd_y j).cls idx (fd_y k) ∈ fd_TG ∨ ((fd_G k).2.2.2 = none ∧ ∃ host, ((fd_y j).cls, idx, fd_y k, host) ∈ fd_NW)))
end
section
theorem fd_Pof {j : Nat} {own : String} {b : ByteArray} {CT CL : List (Nat × Int)} {FT PT : List (Nat × Nat × Nat)} {LT : List (Nat × Nat)} {pcs : List Nat} {rf rl : Nat} {cs : List Instr} {os : List (Instr × Nat)} (h1 : fx_Tab own fd_TG fd_cl CT CL FT PT LT) (h2 : ∀ q ∈ LT, q.2 < 1000000 → fx_MF fd_TG fd_cl fd_G fd_y fd_b fd_PC q.2 ∧ (Jvm.Cond.methodLink own q.1 (fd_y q.2) ∈ fd_TG ∨ ((fd_G q.2).2.2.2 = none ∧ ∃ host, (own, q.1, fd_y q.2, host) ∈ fd_NW)))
    (h3 : fd_chk CT CL FT PT LT pcs rf rl b 0 cs os = true) (e1 : (fd_y j).cls = own) (e2 : fd_CT j = CT) (e3 : fd_CL j = CL) (e4 : fd_FT j = FT) (e5 : fd_PT j = PT) (e6 : fd_LT j = LT) (e7 : fd_PC j = pcs) (e8 : fd_RO j = (rf, rl)) (e9 : fd_b j = b) (e10 : fd_C j = cs) : fd_P j := by
  unfold fd_P
  rw [e1, e2, e3, e4, e5, e6, e7, e8, e9, e10]
  refine ⟨fun i mm hi => ⟨h1, ?_⟩, fun idx k hk hn => h2 (idx, k) hk hn⟩
  have := fd_chk_get h3 hi
  rwa [Nat.zero_add] at this
theorem fd_Pof2 {j : Nat} {own : String} {b : ByteArray} {CT CL : List (Nat × Int)} {FT PT : List (Nat × Nat × Nat)} {LT : List (Nat × Nat)} {pcs : List Nat} {rf rl : Nat} {cs : List Instr} {os : List (Instr × Nat)} (n : Nat) (hn : cs.length ≤ 30 * n) (h1 : fx_Tab own fd_TG fd_cl CT CL FT PT LT) (h2 : ∀ q ∈ LT, q.2 < 1000000 → fx_MF fd_TG fd_cl fd_G fd_y fd_b fd_PC q.2 ∧ (Jvm.Cond.methodLink own q.1 (fd_y q.2) ∈ fd_TG ∨ ((fd_G q.2).2.2.2 = none ∧ ∃ host, (own, q.1, fd_y q.2, host) ∈ fd_NW)))
    (h3 : ∀ q, q < n → fd_chk CT CL FT PT LT pcs rf rl b (30 * q) ((cs.drop (30 * q)).take 30) ((os.drop (30 * q)).take 30) = true) (e1 : (fd_y j).cls = own) (e2 : fd_CT j = CT) (e3 : fd_CL j = CL) (e4 : fd_FT j = FT) (e5 : fd_PT j = PT) (e6 : fd_LT j = LT) (e7 : fd_PC j = pcs) (e8 : fd_RO j = (rf, rl)) (e9 : fd_b j = b) (e10 : fd_C j = cs) : fd_P j := by
  unfold fd_P
  rw [e1, e2, e3, e4, e5, e6, e7, e8, e9, e10]
  refine ⟨fun i mm hi => ⟨h1, ?_⟩, fun idx k hk hn => h2 (idx, k) hk hn⟩
  have hl := (List.getElem?_eq_some_iff.mp hi).1
  have := fd_chk_get (h3 (i / 30) (by omega)) (k := i % 30) (mm := mm) (by rw [List.getElem?_take_of_lt (by omega), List.getElem?_drop, show 30 * (i / 30) + i % 30 = i by omega]; exact hi)
  rwa [show 30 * (i / 30) + i % 30 = i by omega] at this
theorem fd_k0 : fd_chk fd_CT0 fd_CL0 fd_FT0 fd_PT0 fd_LT0 fd_p0 6 132 prog_1_method_2_code 0 fd_c0 fd_o0 = true := by decide +kernel
theorem fd_g0 : fd_P 0 := fd_Pof fd_x0 fd_l0 fd_k0 rfl rfl rfl rfl rfl rfl rfl rfl rfl rfl
theorem fd_k1 : fd_chk fd_CT0 fd_CL0 fd_FT0 fd_PT0 fd_LT0 fd_p1 0 0 prog_1_method_28_code 0 fd_c1 fd_o1 = true := by decide +kernel
theorem fd_g1 : fd_P 1 := fd_Pof fd_x0 fd_l0 fd_k1 rfl rfl rfl rfl rfl rfl rfl rfl rfl rfl
theorem fd_k2 : fd_chk fd_CT0 fd_CL0 fd_FT0 fd_PT0 fd_LT0 fd_p2 0 0 prog_1_method_32_code 0 fd_c2 fd_o2 = true := by decide +kernel
theorem fd_g2 : fd_P 2 := fd_Pof fd_x0 fd_l0 fd_k2 rfl rfl rfl rfl rfl rfl rfl rfl rfl rfl
theorem fd_k3 : fd_chk fd_CT0 fd_CL0 fd_FT0 fd_PT0 fd_LT0 fd_p3 0 0 prog_1_method_35_code 0 fd_c3 fd_o3 = true := by decide +kernel
theorem fd_g3 : fd_P 3 := fd_Pof fd_x0 fd_l0 fd_k3 rfl rfl rfl rfl rfl rfl rfl rfl rfl rfl
theorem fd_k4 : fd_chk fd_CT0 fd_CL0 fd_FT0 fd_PT0 fd_LT0 fd_p4 0 0 prog_1_method_29_code 0 fd_c4 fd_o4 = true := by decide +kernel
theorem fd_g4 : fd_P 4 := fd_Pof fd_x0 fd_l0 fd_k4 rfl rfl rfl rfl rfl rfl rfl rfl rfl rfl
theorem fd_k5 : fd_chk fd_CT0 fd_CL0 fd_FT0 fd_PT0 fd_LT0 fd_p5 0 0 prog_1_method_37_code 0 fd_c5 fd_o5 = true := by decide +kernel
theorem fd_g5 : fd_P 5 := fd_Pof fd_x0 fd_l0 fd_k5 rfl rfl rfl rfl rfl rfl rfl rfl rfl rfl
theorem fd_k6 : fd_chk fd_CT0 fd_CL0 fd_FT0 fd_PT0 fd_LT0 fd_p6 0 0 prog_1_method_30_code 0 fd_c6 fd_o6 = true := by decide +kernel
theorem fd_g6 : fd_P 6 := fd_Pof fd_x0 fd_l0 fd_k6 rfl rfl rfl rfl rfl rfl rfl rfl rfl rfl
theorem fd_k7 : fd_chk fd_CT0 fd_CL0 fd_FT0 fd_PT0 fd_LT0 fd_p7 0 0 prog_1_method_38_code 0 fd_c7 fd_o7 = true := by decide +kernel
theorem fd_g7 : fd_P 7 := fd_Pof fd_x0 fd_l0 fd_k7 rfl rfl rfl rfl rfl rfl rfl rfl rfl rfl
theorem fd_k8 : fd_chk fd_CT0 fd_CL0 fd_FT0 fd_PT0 fd_LT0 fd_p8 4 86 prog_1_method_3_code 0 fd_c8 fd_o8 = true := by decide +kernel
theorem fd_g8 : fd_P 8 := fd_Pof fd_x0 fd_l0 fd_k8 rfl rfl rfl rfl rfl rfl rfl rfl rfl rfl
theorem fd_k9 : fd_chk fd_CT0 fd_CL0 fd_FT0 fd_PT0 fd_LT0 fd_p9 3 68 prog_1_method_4_code 0 fd_c9 fd_o9 = true := by decide +kernel
theorem fd_g9 : fd_P 9 := fd_Pof fd_x0 fd_l0 fd_k9 rfl rfl rfl rfl rfl rfl rfl rfl rfl rfl
theorem fd_k10 : fd_chk fd_CT0 fd_CL0 fd_FT0 fd_PT0 fd_LT0 fd_p10 4 86 prog_1_method_5_code 0 fd_c10 fd_o10 = true := by decide +kernel
theorem fd_g10 : fd_P 10 := fd_Pof fd_x0 fd_l0 fd_k10 rfl rfl rfl rfl rfl rfl rfl rfl rfl rfl
theorem fd_k11 : fd_chk fd_CT0 fd_CL0 fd_FT0 fd_PT0 fd_LT0 fd_p11 5 107 prog_1_method_6_code 0 fd_c11 fd_o11 = true := by decide +kernel
theorem fd_g11 : fd_P 11 := fd_Pof fd_x0 fd_l0 fd_k11 rfl rfl rfl rfl rfl rfl rfl rfl rfl rfl
theorem fd_k12 : fd_chk fd_CT0 fd_CL0 fd_FT0 fd_PT0 fd_LT0 fd_p12 5 107 prog_1_method_7_code 0 fd_c12 fd_o12 = true := by decide +kernel
theorem fd_g12 : fd_P 12 := fd_Pof fd_x0 fd_l0 fd_k12 rfl rfl rfl rfl rfl rfl rfl rfl rfl rfl
theorem fd_k13 : fd_chk fd_CT0 fd_CL0 fd_FT0 fd_PT0 fd_LT0 fd_p13 0 0 prog_1_method_33_code 0 fd_c13 fd_o13 = true := by decide +kernel
theorem fd_g13 : fd_P 13 := fd_Pof fd_x0 fd_l0 fd_k13 rfl rfl rfl rfl rfl rfl rfl rfl rfl rfl
theorem fd_k14 : fd_chk fd_CT0 fd_CL0 fd_FT0 fd_PT0 fd_LT0 fd_p14 5 107 prog_1_method_8_code 0 fd_c14 fd_o14 = true := by decide +kernel
theorem fd_g14 : fd_P 14 := fd_Pof fd_x0 fd_l0 fd_k14 rfl rfl rfl rfl rfl rfl rfl rfl rfl rfl
theorem fd_k15 : fd_chk fd_CT0 fd_CL0 fd_FT0 fd_PT0 fd_LT0 fd_p15 6 129 prog_1_method_9_code 0 fd_c15 fd_o15 = true := by decide +kernel
theorem fd_g15 : fd_P 15 := fd_Pof fd_x0 fd_l0 fd_k15 rfl rfl rfl rfl rfl rfl rfl rfl rfl rfl
theorem fd_k16 : fd_chk fd_CT0 fd_CL0 fd_FT0 fd_PT0 fd_LT0 fd_p16 6 138 prog_1_method_10_code 0 fd_c16 fd_o16 = true := by decide +kernel
theorem fd_g16 : fd_P 16 := fd_Pof fd_x0 fd_l0 fd_k16 rfl rfl rfl rfl rfl rfl rfl rfl rfl rfl
theorem fd_k17 : fd_chk fd_CT0 fd_CL0 fd_FT0 fd_PT0 fd_LT0 fd_p17 1 20 prog_1_method_39_code 0 fd_c17 fd_o17 = true := by decide +kernel
theorem fd_g17 : fd_P 17 := fd_Pof fd_x0 fd_l0 fd_k17 rfl rfl rfl rfl rfl rfl rfl rfl rfl rfl
theorem fd_k18 : fd_chk fd_CT0 fd_CL0 fd_FT0 fd_PT0 fd_LT0 fd_p18 0 0 prog_1_method_36_code 0 fd_c18 fd_o18 = true := by decide +kernel
theorem fd_g18 : fd_P 18 := fd_Pof fd_x0 fd_l0 fd_k18 rfl rfl rfl rfl rfl rfl rfl rfl rfl rfl
theorem fd_k19 : fd_chk fd_CT0 fd_CL0 fd_FT0 fd_PT0 fd_LT0 fd_p19 6 138 prog_1_method_11_code 0 fd_c19 fd_o19 = true := by decide +kernel
theorem fd_g19 : fd_P 19 := fd_Pof fd_x0 fd_l0 fd_k19 rfl rfl rfl rfl rfl rfl rfl rfl rfl rfl
theorem fd_k20 : fd_chk fd_CT0 fd_CL0 fd_FT0 fd_PT0 fd_LT0 fd_p20 5 106 prog_1_method_12_code 0 fd_c20 fd_o20 = true := by decide +kernel
theorem fd_g20 : fd_P 20 := fd_Pof fd_x0 fd_l0 fd_k20 rfl rfl rfl rfl rfl rfl rfl rfl rfl rfl
theorem fd_k21 : fd_chk fd_CT0 fd_CL0 fd_FT0 fd_PT0 fd_LT0 fd_p21 0 0 prog_1_method_31_code 0 fd_c21 fd_o21 = true := by decide +kernel
theorem fd_g21 : fd_P 21 := fd_Pof fd_x0 fd_l0 fd_k21 rfl rfl rfl rfl rfl rfl rfl rfl rfl rfl
theorem fd_k22 : fd_chk fd_CT0 fd_CL0 fd_FT0 fd_PT0 fd_LT0 fd_p22 6 129 prog_1_method_13_code 0 fd_c22 fd_o22 = true := by decide +kernel
theorem fd_g22 : fd_P 22 := fd_Pof fd_x0 fd_l0 fd_k22 rfl rfl rfl rfl rfl rfl rfl rfl rfl rfl
theorem fd_k23 : fd_chk fd_CT0 fd_CL0 fd_FT0 fd_PT0 fd_LT0 fd_p23 6 138 prog_1_method_14_code 0 fd_c23 fd_o23 = true := by decide +kernel
theorem fd_g23 : fd_P 23 := fd_Pof fd_x0 fd_l0 fd_k23 rfl rfl rfl rfl rfl rfl rfl rfl rfl rfl
theorem fd_k24 : fd_chk fd_CT0 fd_CL0 fd_FT0 fd_PT0 fd_LT0 fd_p24 6 138 prog_1_method_15_code 0 fd_c24 fd_o24 = true := by decide +kernel
theorem fd_g24 : fd_P 24 := fd_Pof fd_x0 fd_l0 fd_k24 rfl rfl rfl rfl rfl rfl rfl rfl rfl rfl
theorem fd_k25 : fd_chk fd_CT0 fd_CL0 fd_FT0 fd_PT0 fd_LT0 fd_p25 3 64 prog_1_method_16_code 0 fd_c25 fd_o25 = true := by decide +kernel
theorem fd_g25 : fd_P 25 := fd_Pof fd_x0 fd_l0 fd_k25 rfl rfl rfl rfl rfl rfl rfl rfl rfl rfl
theorem fd_k26 : fd_chk fd_CT0 fd_CL0 fd_FT0 fd_PT0 fd_LT0 fd_p26 6 129 prog_1_method_17_code 0 fd_c26 fd_o26 = true := by decide +kernel
theorem fd_g26 : fd_P 26 := fd_Pof fd_x0 fd_l0 fd_k26 rfl rfl rfl rfl rfl rfl rfl rfl rfl rfl
theorem fd_k27 : fd_chk fd_CT0 fd_CL0 fd_FT0 fd_PT0 fd_LT0 fd_p27 5 107 prog_1_method_18_code 0 fd_c27 fd_o27 = true := by decide +kernel
theorem fd_g27 : fd_P 27 := fd_Pof fd_x0 fd_l0 fd_k27 rfl rfl rfl rfl rfl rfl rfl rfl rfl rfl
theorem fd_k28 : fd_chk fd_CT0 fd_CL0 fd_FT0 fd_PT0 fd_LT0 fd_p28 6 129 prog_1_method_19_code 0 fd_c28 fd_o28 = true := by decide +kernel
theorem fd_g28 : fd_P 28 := fd_Pof fd_x0 fd_l0 fd_k28 rfl rfl rfl rfl rfl rfl rfl rfl rfl rfl
theorem fd_k29 : fd_chk fd_CT0 fd_CL0 fd_FT0 fd_PT0 fd_LT0 fd_p29 5 107 prog_1_method_20_code 0 fd_c29 fd_o29 = true := by decide +kernel
theorem fd_g29 : fd_P 29 := fd_Pof fd_x0 fd_l0 fd_k29 rfl rfl rfl rfl rfl rfl rfl rfl rfl rfl
theorem fd_k30 : fd_chk fd_CT0 fd_CL0 fd_FT0 fd_PT0 fd_LT0 fd_p30 6 138 prog_1_method_21_code 0 fd_c30 fd_o30 = true := by decide +kernel
theorem fd_g30 : fd_P 30 := fd_Pof fd_x0 fd_l0 fd_k30 rfl rfl rfl rfl rfl rfl rfl rfl rfl rfl
theorem fd_k31 : fd_chk fd_CT0 fd_CL0 fd_FT0 fd_PT0 fd_LT0 fd_p31 1 26 prog_1_method_22_code 0 fd_c31 fd_o31 = true := by decide +kernel
theorem fd_g31 : fd_P 31 := fd_Pof fd_x0 fd_l0 fd_k31 rfl rfl rfl rfl rfl rfl rfl rfl rfl rfl
theorem fd_k32 : fd_chk fd_CT0 fd_CL0 fd_FT0 fd_PT0 fd_LT0 fd_p32 1 20 prog_1_method_23_code 0 fd_c32 fd_o32 = true := by decide +kernel
theorem fd_g32 : fd_P 32 := fd_Pof fd_x0 fd_l0 fd_k32 rfl rfl rfl rfl rfl rfl rfl rfl rfl rfl
theorem fd_k33 : fd_chk fd_CT0 fd_CL0 fd_FT0 fd_PT0 fd_LT0 fd_p33 6 132 prog_1_method_24_code 0 fd_c33 fd_o33 = true := by decide +kernel
theorem fd_g33 : fd_P 33 := fd_Pof fd_x0 fd_l0 fd_k33 rfl rfl rfl rfl rfl rfl rfl rfl rfl rfl
theorem fd_k34 : fd_chk fd_CT0 fd_CL0 fd_FT0 fd_PT0 fd_LT0 fd_p34 3 69 prog_1_method_25_code 0 fd_c34 fd_o34 = true := by decide +kernel
theorem fd_g34 : fd_P 34 := fd_Pof fd_x0 fd_l0 fd_k34 rfl rfl rfl rfl rfl rfl rfl rfl rfl rfl
theorem fd_k35 : fd_chk fd_CT0 fd_CL0 fd_FT0 fd_PT0 fd_LT0 fd_p35 5 108 prog_1_method_26_code 0 fd_c35 fd_o35 = true := by decide +kernel
theorem fd_g35 : fd_P 35 := fd_Pof fd_x0 fd_l0 fd_k35 rfl rfl rfl rfl rfl rfl rfl rfl rfl rfl
theorem fd_k36 : fd_chk fd_CT0 fd_CL0 fd_FT0 fd_PT0 fd_LT0 fd_p36 0 0 prog_1_method_34_code 0 fd_c36 fd_o36 = true := by decide +kernel
theorem fd_g36 : fd_P 36 := fd_Pof fd_x0 fd_l0 fd_k36 rfl rfl rfl rfl rfl rfl rfl rfl rfl rfl
theorem fd_k37 : fd_chk fd_CT0 fd_CL0 fd_FT0 fd_PT0 fd_LT0 fd_p37 5 108 prog_1_method_27_code 0 fd_c37 fd_o37 = true := by decide +kernel
theorem fd_g37 : fd_P 37 := fd_Pof fd_x0 fd_l0 fd_k37 rfl rfl rfl rfl rfl rfl rfl rfl rfl rfl
theorem fd_k38 : fd_chk fd_CT1 fd_CL1 fd_FT1 fd_PT1 fd_LT1 fd_p38 2 47 prog_2_method_3_code 0 fd_c38 fd_o38 = true := by decide +kernel
theorem fd_g38 : fd_P 38 := fd_Pof fd_x1 fd_l1 fd_k38 rfl rfl rfl rfl rfl rfl rfl rfl rfl rfl
theorem fd_k39 : fd_chk fd_CT1 fd_CL1 fd_FT1 fd_PT1 fd_LT1 fd_p39 0 0 prog_2_method_2_code 0 fd_c39 fd_o39 = true := by decide +kernel
theorem fd_g39 : fd_P 39 := fd_Pof fd_x1 fd_l1 fd_k39 rfl rfl rfl rfl rfl rfl rfl rfl rfl rfl
theorem fd_k40 : fd_chk fd_CT1 fd_CL1 fd_FT1 fd_PT1 fd_LT1 fd_p40 2 47 prog_2_method_4_code 0 fd_c40 fd_o40 = true := by decide +kernel
theorem fd_g40 : fd_P 40 := fd_Pof fd_x1 fd_l1 fd_k40 rfl rfl rfl rfl rfl rfl rfl rfl rfl rfl
theorem fd_k41 : fd_chk fd_CT2 fd_CL2 fd_FT2 fd_PT2 fd_LT2 fd_p41 5 116 prog_3_method_2_code 0 fd_c41 fd_o41 = true := by decide +kernel
theorem fd_g41 : fd_P 41 := fd_Pof fd_x2 fd_l2 fd_k41 rfl rfl rfl rfl rfl rfl rfl rfl rfl rfl
theorem fd_k42 : fd_chk fd_CT2 fd_CL2 fd_FT2 fd_PT2 fd_LT2 fd_p42 4 91 prog_3_method_3_code 0 fd_c42 fd_o42 = true := by decide +kernel
theorem fd_g42 : fd_P 42 := fd_Pof fd_x2 fd_l2 fd_k42 rfl rfl rfl rfl rfl rfl rfl rfl rfl rfl
theorem fd_k43 : fd_chk fd_CT2 fd_CL2 fd_FT2 fd_PT2 fd_LT2 fd_p43 0 0 prog_3_method_6_code 0 fd_c43 fd_o43 = true := by decide +kernel
theorem fd_g43 : fd_P 43 := fd_Pof fd_x2 fd_l2 fd_k43 rfl rfl rfl rfl rfl rfl rfl rfl rfl rfl
theorem fd_k44 : fd_chk fd_CT2 fd_CL2 fd_FT2 fd_PT2 fd_LT2 fd_p44 3 65 prog_3_method_4_code 0 fd_c44 fd_o44 = true := by decide +kernel
theorem fd_g44 : fd_P 44 := fd_Pof fd_x2 fd_l2 fd_k44 rfl rfl rfl rfl rfl rfl rfl rfl rfl rfl
theorem fd_k45 : fd_chk fd_CT2 fd_CL2 fd_FT2 fd_PT2 fd_LT2 fd_p45 2 41 prog_3_method_5_code 0 fd_c45 fd_o45 = true := by decide +kernel
theorem fd_g45 : fd_P 45 := fd_Pof fd_x2 fd_l2 fd_k45 rfl rfl rfl rfl rfl rfl rfl rfl rfl rfl
theorem fd_k46 : fd_chk fd_CT2 fd_CL2 fd_FT2 fd_PT2 fd_LT2 fd_p46 1 20 prog_3_method_8_code 0 fd_c46 fd_o46 = true := by decide +kernel
theorem fd_g46 : fd_P 46 := fd_Pof fd_x2 fd_l2 fd_k46 rfl rfl rfl rfl rfl rfl rfl rfl rfl rfl
theorem fd_k47 : fd_chk fd_CT2 fd_CL2 fd_FT2 fd_PT2 fd_LT2 fd_p47 2 41 prog_3_method_15_code 0 fd_c47 fd_o47 = true := by decide +kernel
theorem fd_g47 : fd_P 47 := fd_Pof fd_x2 fd_l2 fd_k47 rfl rfl rfl rfl rfl rfl rfl rfl rfl rfl
theorem fd_k48 : fd_chk fd_CT2 fd_CL2 fd_FT2 fd_PT2 fd_LT2 fd_p48 1 20 prog_3_method_11_code 0 fd_c48 fd_o48 = true := by decide +kernel
theorem fd_g48 : fd_P 48 := fd_Pof fd_x2 fd_l2 fd_k48 rfl rfl rfl rfl rfl rfl rfl rfl rfl rfl
theorem fd_k49 : fd_chk fd_CT2 fd_CL2 fd_FT2 fd_PT2 fd_LT2 fd_p49 0 0 prog_3_method_7_code 0 fd_c49 fd_o49 = true := by decide +kernel
theorem fd_g49 : fd_P 49 := fd_Pof fd_x2 fd_l2 fd_k49 rfl rfl rfl rfl rfl rfl rfl rfl rfl rfl
theorem fd_k50 : fd_chk fd_CT2 fd_CL2 fd_FT2 fd_PT2 fd_LT2 fd_p50 1 20 prog_3_method_9_code 0 fd_c50 fd_o50 = true := by decide +kernel
theorem fd_g50 : fd_P 50 := fd_Pof fd_x2 fd_l2 fd_k50 rfl rfl rfl rfl rfl rfl rfl rfl rfl rfl
theorem fd_k51 : fd_chk fd_CT2 fd_CL2 fd_FT2 fd_PT2 fd_LT2 fd_p51 1 20 prog_3_method_10_code 0 fd_c51 fd_o51 = true := by decide +kernel
theorem fd_g51 : fd_P 51 := fd_Pof fd_x2 fd_l2 fd_k51 rfl rfl rfl rfl rfl rfl rfl rfl rfl rfl
theorem fd_k52 : fd_chk fd_CT2 fd_CL2 fd_FT2 fd_PT2 fd_LT2 fd_p52 1 20 prog_3_method_12_code 0 fd_c52 fd_o52 = true := by decide +kernel
theorem fd_g52 : fd_P 52 := fd_Pof fd_x2 fd_l2 fd_k52 rfl rfl rfl rfl rfl rfl rfl rfl rfl rfl
theorem fd_k53 : fd_chk fd_CT2 fd_CL2 fd_FT2 fd_PT2 fd_LT2 fd_p53 1 20 prog_3_method_13_code 0 fd_c53 fd_o53 = true := by decide +kernel
theorem fd_g53 : fd_P 53 := fd_Pof fd_x2 fd_l2 fd_k53 rfl rfl rfl rfl rfl rfl rfl rfl rfl rfl
theorem fd_k54 : fd_chk fd_CT2 fd_CL2 fd_FT2 fd_PT2 fd_LT2 fd_p54 1 20 prog_3_method_14_code 0 fd_c54 fd_o54 = true := by decide +kernel
theorem fd_g54 : fd_P 54 := fd_Pof fd_x2 fd_l2 fd_k54 rfl rfl rfl rfl rfl rfl rfl rfl rfl rfl
theorem fd_k55 : fd_chk fd_CT2 fd_CL2 fd_FT2 fd_PT2 fd_LT2 fd_p55 2 41 prog_3_method_16_code 0 fd_c55 fd_o55 = true := by decide +kernel
theorem fd_g55 : fd_P 55 := fd_Pof fd_x2 fd_l2 fd_k55 rfl rfl rfl rfl rfl rfl rfl rfl rfl rfl
theorem fd_k56 : fd_chk fd_CT2 fd_CL2 fd_FT2 fd_PT2 fd_LT2 fd_p56 2 41 prog_3_method_17_code 0 fd_c56 fd_o56 = true := by decide +kernel
theorem fd_g56 : fd_P 56 := fd_Pof fd_x2 fd_l2 fd_k56 rfl rfl rfl rfl rfl rfl rfl rfl rfl rfl
theorem fd_k57 : fd_chk fd_CT2 fd_CL2 fd_FT2 fd_PT2 fd_LT2 fd_p57 2 41 prog_3_method_18_code 0 fd_c57 fd_o57 = true := by decide +kernel
theorem fd_g57 : fd_P 57 := fd_Pof fd_x2 fd_l2 fd_k57 rfl rfl rfl rfl rfl rfl rfl rfl rfl rfl
theorem fd_k58 : fd_chk fd_CT3 fd_CL3 fd_FT3 fd_PT3 fd_LT3 fd_p58 5 110 prog_4_method_8_code 0 fd_c58 fd_o58 = true := by decide +kernel
theorem fd_g58 : fd_P 58 := fd_Pof fd_x3 fd_l3 fd_k58 rfl rfl rfl rfl rfl rfl rfl rfl rfl rfl
theorem fd_k59 : fd_chk fd_CT3 fd_CL3 fd_FT3 fd_PT3 fd_LT3 fd_p59 4 88 prog_4_method_9_code 0 fd_c59 fd_o59 = true := by decide +kernel
theorem fd_g59 : fd_P 59 := fd_Pof fd_x3 fd_l3 fd_k59 rfl rfl rfl rfl rfl rfl rfl rfl rfl rfl
theorem fd_k60 : fd_chk fd_CT3 fd_CL3 fd_FT3 fd_PT3 fd_LT3 fd_p60 1 21 prog_4_method_7_code 0 fd_c60 fd_o60 = true := by decide +kernel
theorem fd_g60 : fd_P 60 := fd_Pof fd_x3 fd_l3 fd_k60 rfl rfl rfl rfl rfl rfl rfl rfl rfl rfl
theorem fd_k61 : fd_chk fd_CT3 fd_CL3 fd_FT3 fd_PT3 fd_LT3 fd_p61 0 0 prog_4_method_6_code 0 fd_c61 fd_o61 = true := by decide +kernel
theorem fd_g61 : fd_P 61 := fd_Pof fd_x3 fd_l3 fd_k61 rfl rfl rfl rfl rfl rfl rfl rfl rfl rfl
theorem fd_k62 : fd_chk fd_CT3 fd_CL3 fd_FT3 fd_PT3 fd_LT3 fd_p62 2 44 prog_4_method_10_code 0 fd_c62 fd_o62 = true := by decide +kernel
theorem fd_g62 : fd_P 62 := fd_Pof fd_x3 fd_l3 fd_k62 rfl rfl rfl rfl rfl rfl rfl rfl rfl rfl
theorem fd_k63 : fd_chk fd_CT3 fd_CL3 fd_FT3 fd_PT3 fd_LT3 fd_p63 1 22 prog_4_method_11_code 0 fd_c63 fd_o63 = true := by decide +kernel
theorem fd_g63 : fd_P 63 := fd_Pof fd_x3 fd_l3 fd_k63 rfl rfl rfl rfl rfl rfl rfl rfl rfl rfl
theorem fd_k64 : fd_chk fd_CT3 fd_CL3 fd_FT3 fd_PT3 fd_LT3 fd_p64 0 0 prog_4_method_13_code 0 fd_c64 fd_o64 = true := by decide +kernel
theorem fd_g64 : fd_P 64 := fd_Pof fd_x3 fd_l3 fd_k64 rfl rfl rfl rfl rfl rfl rfl rfl rfl rfl
theorem fd_k65 : fd_chk fd_CT3 fd_CL3 fd_FT3 fd_PT3 fd_LT3 fd_p65 0 0 prog_4_method_14_code 0 fd_c65 fd_o65 = true := by decide +kernel
theorem fd_g65 : fd_P 65 := fd_Pof fd_x3 fd_l3 fd_k65 rfl rfl rfl rfl rfl rfl rfl rfl rfl rfl
theorem fd_k66 : fd_chk fd_CT3 fd_CL3 fd_FT3 fd_PT3 fd_LT3 fd_p66 3 65 prog_4_method_12_code 0 fd_c66 fd_o66 = true := by decide +kernel
theorem fd_g66 : fd_P 66 := fd_Pof fd_x3 fd_l3 fd_k66 rfl rfl rfl rfl rfl rfl rfl rfl rfl rfl
theorem fd_k67 : fd_chk fd_CT3 fd_CL3 fd_FT3 fd_PT3 fd_LT3 fd_p67 2 43 prog_4_method_16_code 0 fd_c67 fd_o67 = true := by decide +kernel
theorem fd_g67 : fd_P 67 := fd_Pof fd_x3 fd_l3 fd_k67 rfl rfl rfl rfl rfl rfl rfl rfl rfl rfl
theorem fd_k68 : fd_chk fd_CT3 fd_CL3 fd_FT3 fd_PT3 fd_LT3 fd_p68 2 43 prog_4_method_15_code 0 fd_c68 fd_o68 = true := by decide +kernel
theorem fd_g68 : fd_P 68 := fd_Pof fd_x3 fd_l3 fd_k68 rfl rfl rfl rfl rfl rfl rfl rfl rfl rfl
theorem fd_k69 : fd_chk fd_CT3 fd_CL3 fd_FT3 fd_PT3 fd_LT3 fd_p69 3 65 prog_4_method_17_code 0 fd_c69 fd_o69 = true := by decide +kernel
theorem fd_g69 : fd_P 69 := fd_Pof fd_x3 fd_l3 fd_k69 rfl rfl rfl rfl rfl rfl rfl rfl rfl rfl
theorem fd_k70 : fd_chk fd_CT3 fd_CL3 fd_FT3 fd_PT3 fd_LT3 fd_p70 0 0 prog_4_method_3_code 0 fd_c70 fd_o70 = true := by decide +kernel
theorem fd_g70 : fd_P 70 := fd_Pof fd_x3 fd_l3 fd_k70 rfl rfl rfl rfl rfl rfl rfl rfl rfl rfl
theorem fd_k71 : fd_chk fd_CT3 fd_CL3 fd_FT3 fd_PT3 fd_LT3 fd_p71 0 0 prog_4_method_2_code 0 fd_c71 fd_o71 = true := by decide +kernel
theorem fd_g71 : fd_P 71 := fd_Pof fd_x3 fd_l3 fd_k71 rfl rfl rfl rfl rfl rfl rfl rfl rfl rfl
theorem fd_k72 : fd_chk fd_CT3 fd_CL3 fd_FT3 fd_PT3 fd_LT3 fd_p72 0 0 prog_4_method_4_code 0 fd_c72 fd_o72 = true := by decide +kernel
theorem fd_g72 : fd_P 72 := fd_Pof fd_x3 fd_l3 fd_k72 rfl rfl rfl rfl rfl rfl rfl rfl rfl rfl
theorem fd_k73 : fd_chk fd_CT3 fd_CL3 fd_FT3 fd_PT3 fd_LT3 fd_p73 0 0 prog_4_method_5_code 0 fd_c73 fd_o73 = true := by decide +kernel
theorem fd_g73 : fd_P 73 := fd_Pof fd_x3 fd_l3 fd_k73 rfl rfl rfl rfl rfl rfl rfl rfl rfl rfl
theorem fd_k74 : fd_chk fd_CT4 fd_CL4 fd_FT4 fd_PT4 fd_LT4 fd_p74 2 47 prog_5_method_3_code 0 fd_c74 fd_o74 = true := by decide +kernel
theorem fd_g74 : fd_P 74 := fd_Pof fd_x4 fd_l4 fd_k74 rfl rfl rfl rfl rfl rfl rfl rfl rfl rfl
theorem fd_k75 : fd_chk fd_CT4 fd_CL4 fd_FT4 fd_PT4 fd_LT4 fd_p75 1 20 prog_5_method_2_code 0 fd_c75 fd_o75 = true := by decide +kernel
theorem fd_g75 : fd_P 75 := fd_Pof fd_x4 fd_l4 fd_k75 rfl rfl rfl rfl rfl rfl rfl rfl rfl rfl
theorem fd_k76 : fd_chk fd_CT4 fd_CL4 fd_FT4 fd_PT4 fd_LT4 fd_p76 2 47 prog_5_method_4_code 0 fd_c76 fd_o76 = true := by decide +kernel
theorem fd_g76 : fd_P 76 := fd_Pof fd_x4 fd_l4 fd_k76 rfl rfl rfl rfl rfl rfl rfl rfl rfl rfl
theorem fd_k77 : fd_chk fd_CT5 fd_CL5 fd_FT5 fd_PT5 fd_LT5 fd_p77 1 26 prog_6_method_2_code 0 fd_c77 fd_o77 = true := by decide +kernel
theorem fd_g77 : fd_P 77 := fd_Pof fd_x5 fd_l5 fd_k77 rfl rfl rfl rfl rfl rfl rfl rfl rfl rfl
theorem fd_k78 : fd_chk fd_CT5 fd_CL5 fd_FT5 fd_PT5 fd_LT5 fd_p78 1 21 prog_6_method_10_code 0 fd_c78 fd_o78 = true := by decide +kernel
theorem fd_g78 : fd_P 78 := fd_Pof fd_x5 fd_l5 fd_k78 rfl rfl rfl rfl rfl rfl rfl rfl rfl rfl
theorem fd_k79 : fd_chk fd_CT5 fd_CL5 fd_FT5 fd_PT5 fd_LT5 fd_p79 1 20 prog_6_method_18_code 0 fd_c79 fd_o79 = true := by decide +kernel
theorem fd_g79 : fd_P 79 := fd_Pof fd_x5 fd_l5 fd_k79 rfl rfl rfl rfl rfl rfl rfl rfl rfl rfl
theorem fd_k80 : fd_chk fd_CT5 fd_CL5 fd_FT5 fd_PT5 fd_LT5 fd_p80 1 21 prog_6_method_8_code 0 fd_c80 fd_o80 = true := by decide +kernel
theorem fd_g80 : fd_P 80 := fd_Pof fd_x5 fd_l5 fd_k80 rfl rfl rfl rfl rfl rfl rfl rfl rfl rfl
theorem fd_k81 : fd_chk fd_CT5 fd_CL5 fd_FT5 fd_PT5 fd_LT5 fd_p81 3 64 prog_6_method_28_code 0 fd_c81 fd_o81 = true := by decide +kernel
theorem fd_g81 : fd_P 81 := fd_Pof fd_x5 fd_l5 fd_k81 rfl rfl rfl rfl rfl rfl rfl rfl rfl rfl
theorem fd_k82 : fd_chk fd_CT5 fd_CL5 fd_FT5 fd_PT5 fd_LT5 fd_p82 2 41 prog_6_method_7_code 0 fd_c82 fd_o82 = true := by decide +kernel
theorem fd_g82 : fd_P 82 := fd_Pof fd_x5 fd_l5 fd_k82 rfl rfl rfl rfl rfl rfl rfl rfl rfl rfl
theorem fd_k83 : fd_chk fd_CT5 fd_CL5 fd_FT5 fd_PT5 fd_LT5 fd_p83 1 20 prog_6_method_4_code 0 fd_c83 fd_o83 = true := by decide +kernel
theorem fd_g83 : fd_P 83 := fd_Pof fd_x5 fd_l5 fd_k83 rfl rfl rfl rfl rfl rfl rfl rfl rfl rfl
theorem fd_k84 : fd_chk fd_CT5 fd_CL5 fd_FT5 fd_PT5 fd_LT5 fd_p84 1 20 prog_6_method_3_code 0 fd_c84 fd_o84 = true := by decide +kernel
theorem fd_g84 : fd_P 84 := fd_Pof fd_x5 fd_l5 fd_k84 rfl rfl rfl rfl rfl rfl rfl rfl rfl rfl
theorem fd_k85 : fd_chk fd_CT5 fd_CL5 fd_FT5 fd_PT5 fd_LT5 fd_p85 1 21 prog_6_method_9_code 0 fd_c85 fd_o85 = true := by decide +kernel
theorem fd_g85 : fd_P 85 := fd_Pof fd_x5 fd_l5 fd_k85 rfl rfl rfl rfl rfl rfl rfl rfl rfl rfl
theorem fd_k86 : fd_chk fd_CT5 fd_CL5 fd_FT5 fd_PT5 fd_LT5 fd_p86 3 64 prog_6_method_11_code 0 fd_c86 fd_o86 = true := by decide +kernel
theorem fd_g86 : fd_P 86 := fd_Pof fd_x5 fd_l5 fd_k86 rfl rfl rfl rfl rfl rfl rfl rfl rfl rfl
theorem fd_k87 : fd_chk fd_CT5 fd_CL5 fd_FT5 fd_PT5 fd_LT5 fd_p87 3 65 prog_6_method_12_code 0 fd_c87 fd_o87 = true := by decide +kernel
theorem fd_g87 : fd_P 87 := fd_Pof fd_x5 fd_l5 fd_k87 rfl rfl rfl rfl rfl rfl rfl rfl rfl rfl
theorem fd_k88 : fd_chk fd_CT5 fd_CL5 fd_FT5 fd_PT5 fd_LT5 fd_p88 2 43 prog_6_method_14_code 0 fd_c88 fd_o88 = true := by decide +kernel
theorem fd_g88 : fd_P 88 := fd_Pof fd_x5 fd_l5 fd_k88 rfl rfl rfl rfl rfl rfl rfl rfl rfl rfl
theorem fd_k89 : fd_chk fd_CT5 fd_CL5 fd_FT5 fd_PT5 fd_LT5 fd_p89 4 85 prog_6_method_31_code 0 fd_c89 fd_o89 = true := by decide +kernel
theorem fd_g89 : fd_P 89 := fd_Pof fd_x5 fd_l5 fd_k89 rfl rfl rfl rfl rfl rfl rfl rfl rfl rfl
theorem fd_k90 : fd_chk fd_CT5 fd_CL5 fd_FT5 fd_PT5 fd_LT5 fd_p90 3 64 prog_6_method_24_code 0 fd_c90 fd_o90 = true := by decide +kernel
theorem fd_g90 : fd_P 90 := fd_Pof fd_x5 fd_l5 fd_k90 rfl rfl rfl rfl rfl rfl rfl rfl rfl rfl
theorem fd_k91 : fd_chk fd_CT5 fd_CL5 fd_FT5 fd_PT5 fd_LT5 fd_p91 3 64 prog_6_method_25_code 0 fd_c91 fd_o91 = true := by decide +kernel
theorem fd_g91 : fd_P 91 := fd_Pof fd_x5 fd_l5 fd_k91 rfl rfl rfl rfl rfl rfl rfl rfl rfl rfl
theorem fd_k92 : fd_chk fd_CT5 fd_CL5 fd_FT5 fd_PT5 fd_LT5 fd_p92 3 65 prog_6_method_13_code 0 fd_c92 fd_o92 = true := by decide +kernel
theorem fd_g92 : fd_P 92 := fd_Pof fd_x5 fd_l5 fd_k92 rfl rfl rfl rfl rfl rfl rfl rfl rfl rfl
theorem fd_k93 : fd_chk fd_CT5 fd_CL5 fd_FT5 fd_PT5 fd_LT5 fd_p93 0 0 prog_6_method_15_code 0 fd_c93 fd_o93 = true := by decide +kernel
theorem fd_g93 : fd_P 93 := fd_Pof fd_x5 fd_l5 fd_k93 rfl rfl rfl rfl rfl rfl rfl rfl rfl rfl
theorem fd_k94 : fd_chk fd_CT5 fd_CL5 fd_FT5 fd_PT5 fd_LT5 fd_p94 1 21 prog_6_method_16_code 0 fd_c94 fd_o94 = true := by decide +kernel
theorem fd_g94 : fd_P 94 := fd_Pof fd_x5 fd_l5 fd_k94 rfl rfl rfl rfl rfl rfl rfl rfl rfl rfl
theorem fd_k95 : fd_chk fd_CT5 fd_CL5 fd_FT5 fd_PT5 fd_LT5 fd_p95 5 106 prog_6_method_17_code 0 fd_c95 fd_o95 = true := by decide +kernel
theorem fd_g95 : fd_P 95 := fd_Pof fd_x5 fd_l5 fd_k95 rfl rfl rfl rfl rfl rfl rfl rfl rfl rfl
theorem fd_k96 : fd_chk fd_CT5 fd_CL5 fd_FT5 fd_PT5 fd_LT5 fd_p96 4 85 prog_6_method_26_code 0 fd_c96 fd_o96 = true := by decide +kernel
theorem fd_g96 : fd_P 96 := fd_Pof fd_x5 fd_l5 fd_k96 rfl rfl rfl rfl rfl rfl rfl rfl rfl rfl
theorem fd_k97 : fd_chk fd_CT5 fd_CL5 fd_FT5 fd_PT5 fd_LT5 fd_p97 2 42 prog_6_method_6_code 0 fd_c97 fd_o97 = true := by decide +kernel
theorem fd_g97 : fd_P 97 := fd_Pof fd_x5 fd_l5 fd_k97 rfl rfl rfl rfl rfl rfl rfl rfl rfl rfl
theorem fd_k98 : fd_chk fd_CT5 fd_CL5 fd_FT5 fd_PT5 fd_LT5 fd_p98 2 41 prog_6_method_5_code 0 fd_c98 fd_o98 = true := by decide +kernel
theorem fd_g98 : fd_P 98 := fd_Pof fd_x5 fd_l5 fd_k98 rfl rfl rfl rfl rfl rfl rfl rfl rfl rfl
theorem fd_k99 : fd_chk fd_CT5 fd_CL5 fd_FT5 fd_PT5 fd_LT5 fd_p99 1 20 prog_6_method_19_code 0 fd_c99 fd_o99 = true := by decide +kernel
theorem fd_g99 : fd_P 99 := fd_Pof fd_x5 fd_l5 fd_k99 rfl rfl rfl rfl rfl rfl rfl rfl rfl rfl
theorem fd_k100 : fd_chk fd_CT5 fd_CL5 fd_FT5 fd_PT5 fd_LT5 fd_p100 2 46 prog_6_method_36_code 0 fd_c100 fd_o100 = true := by decide +kernel
theorem fd_g100 : fd_P 100 := fd_Pof fd_x5 fd_l5 fd_k100 rfl rfl rfl rfl rfl rfl rfl rfl rfl rfl
theorem fd_k101 : fd_chk fd_CT5 fd_CL5 fd_FT5 fd_PT5 fd_LT5 fd_p101 1 21 prog_6_method_35_code 0 fd_c101 fd_o101 = true := by decide +kernel
theorem fd_g101 : fd_P 101 := fd_Pof fd_x5 fd_l5 fd_k101 rfl rfl rfl rfl rfl rfl rfl rfl rfl rfl
theorem fd_k102 : fd_chk fd_CT5 fd_CL5 fd_FT5 fd_PT5 fd_LT5 fd_p102 0 0 prog_6_method_34_code 0 fd_c102 fd_o102 = true := by decide +kernel
theorem fd_g102 : fd_P 102 := fd_Pof fd_x5 fd_l5 fd_k102 rfl rfl rfl rfl rfl rfl rfl rfl rfl rfl
theorem fd_k103 : fd_chk fd_CT5 fd_CL5 fd_FT5 fd_PT5 fd_LT5 fd_p103 3 74 prog_6_method_37_code 0 fd_c103 fd_o103 = true := by decide +kernel
theorem fd_g103 : fd_P 103 := fd_Pof fd_x5 fd_l5 fd_k103 rfl rfl rfl rfl rfl rfl rfl rfl rfl rfl
theorem fd_k104 : fd_chk fd_CT5 fd_CL5 fd_FT5 fd_PT5 fd_LT5 fd_p104 3 64 prog_6_method_32_code 0 fd_c104 fd_o104 = true := by decide +kernel
theorem fd_g104 : fd_P 104 := fd_Pof fd_x5 fd_l5 fd_k104 rfl rfl rfl rfl rfl rfl rfl rfl rfl rfl
theorem fd_k105 : fd_chk fd_CT5 fd_CL5 fd_FT5 fd_PT5 fd_LT5 fd_p105 2 41 prog_6_method_30_code 0 fd_c105 fd_o105 = true := by decide +kernel
theorem fd_g105 : fd_P 105 := fd_Pof fd_x5 fd_l5 fd_k105 rfl rfl rfl rfl rfl rfl rfl rfl rfl rfl
theorem fd_k106 : fd_chk fd_CT5 fd_CL5 fd_FT5 fd_PT5 fd_LT5 fd_p106 4 85 prog_6_method_27_code 0 fd_c106 fd_o106 = true := by decide +kernel
theorem fd_g106 : fd_P 106 := fd_Pof fd_x5 fd_l5 fd_k106 rfl rfl rfl rfl rfl rfl rfl rfl rfl rfl
theorem fd_k107 : fd_chk fd_CT5 fd_CL5 fd_FT5 fd_PT5 fd_LT5 fd_p107 0 0 prog_6_method_20_code 0 fd_c107 fd_o107 = true := by decide +kernel
theorem fd_g107 : fd_P 107 := fd_Pof fd_x5 fd_l5 fd_k107 rfl rfl rfl rfl rfl rfl rfl rfl rfl rfl
theorem fd_k108 : fd_chk fd_CT5 fd_CL5 fd_FT5 fd_PT5 fd_LT5 fd_p108 4 86 prog_6_method_21_code 0 fd_c108 fd_o108 = true := by decide +kernel
theorem fd_g108 : fd_P 108 := fd_Pof fd_x5 fd_l5 fd_k108 rfl rfl rfl rfl rfl rfl rfl rfl rfl rfl
theorem fd_k109 : fd_chk fd_CT5 fd_CL5 fd_FT5 fd_PT5 fd_LT5 fd_p109 5 106 prog_6_method_22_code 0 fd_c109 fd_o109 = true := by decide +kernel
theorem fd_g109 : fd_P 109 := fd_Pof fd_x5 fd_l5 fd_k109 rfl rfl rfl rfl rfl rfl rfl rfl rfl rfl
theorem fd_k110 : fd_chk fd_CT5 fd_CL5 fd_FT5 fd_PT5 fd_LT5 fd_p110 5 106 prog_6_method_23_code 0 fd_c110 fd_o110 = true := by decide +kernel
theorem fd_g110 : fd_P 110 := fd_Pof fd_x5 fd_l5 fd_k110 rfl rfl rfl rfl rfl rfl rfl rfl rfl rfl
theorem fd_k111 : fd_chk fd_CT5 fd_CL5 fd_FT5 fd_PT5 fd_LT5 fd_p111 4 86 prog_6_method_29_code 0 fd_c111 fd_o111 = true := by decide +kernel
theorem fd_g111 : fd_P 111 := fd_Pof fd_x5 fd_l5 fd_k111 rfl rfl rfl rfl rfl rfl rfl rfl rfl rfl
theorem fd_k112 : fd_chk fd_CT5 fd_CL5 fd_FT5 fd_PT5 fd_LT5 fd_p112 3 64 prog_6_method_33_code 0 fd_c112 fd_o112 = true := by decide +kernel
theorem fd_g112 : fd_P 112 := fd_Pof fd_x5 fd_l5 fd_k112 rfl rfl rfl rfl rfl rfl rfl rfl rfl rfl
theorem fd_k113 : fd_chk fd_CT5 fd_CL5 fd_FT5 fd_PT5 fd_LT5 fd_p113 4 97 prog_6_method_38_code 0 fd_c113 fd_o113 = true := by decide +kernel
theorem fd_g113 : fd_P 113 := fd_Pof fd_x5 fd_l5 fd_k113 rfl rfl rfl rfl rfl rfl rfl rfl rfl rfl
theorem fd_k114 : fd_chk fd_CT7 fd_CL7 fd_FT7 fd_PT7 fd_LT7 fd_p114 3 63 prog_8_method_25_code 0 fd_c114 fd_o114 = true := by decide +kernel
theorem fd_g114 : fd_P 114 := fd_Pof fd_x7 fd_l7 fd_k114 rfl rfl rfl rfl rfl rfl rfl rfl rfl rfl
theorem fd_k115 : fd_chk fd_CT7 fd_CL7 fd_FT7 fd_PT7 fd_LT7 fd_p115 2 42 prog_8_method_4_code 0 fd_c115 fd_o115 = true := by decide +kernel
theorem fd_g115 : fd_P 115 := fd_Pof fd_x7 fd_l7 fd_k115 rfl rfl rfl rfl rfl rfl rfl rfl rfl rfl
theorem fd_k116 : fd_chk fd_CT7 fd_CL7 fd_FT7 fd_PT7 fd_LT7 fd_p116 1 22 prog_8_method_3_code 0 fd_c116 fd_o116 = true := by decide +kernel
theorem fd_g116 : fd_P 116 := fd_Pof fd_x7 fd_l7 fd_k116 rfl rfl rfl rfl rfl rfl rfl rfl rfl rfl
theorem fd_k117 : fd_chk fd_CT7 fd_CL7 fd_FT7 fd_PT7 fd_LT7 fd_p117 0 0 prog_8_method_2_code 0 fd_c117 fd_o117 = true := by decide +kernel
theorem fd_g117 : fd_P 117 := fd_Pof fd_x7 fd_l7 fd_k117 rfl rfl rfl rfl rfl rfl rfl rfl rfl rfl
theorem fd_k118 : fd_chk fd_CT7 fd_CL7 fd_FT7 fd_PT7 fd_LT7 fd_p118 0 0 prog_8_method_8_code 0 fd_c118 fd_o118 = true := by decide +kernel
theorem fd_g118 : fd_P 118 := fd_Pof fd_x7 fd_l7 fd_k118 rfl rfl rfl rfl rfl rfl rfl rfl rfl rfl
theorem fd_k119 : fd_chk fd_CT7 fd_CL7 fd_FT7 fd_PT7 fd_LT7 fd_p119 0 0 prog_8_method_5_code 0 fd_c119 fd_o119 = true := by decide +kernel
theorem fd_g119 : fd_P 119 := fd_Pof fd_x7 fd_l7 fd_k119 rfl rfl rfl rfl rfl rfl rfl rfl rfl rfl
theorem fd_k120 : fd_chk fd_CT7 fd_CL7 fd_FT7 fd_PT7 fd_LT7 fd_p120 0 0 prog_8_method_15_code 0 fd_c120 fd_o120 = true := by decide +kernel
theorem fd_g120 : fd_P 120 := fd_Pof fd_x7 fd_l7 fd_k120 rfl rfl rfl rfl rfl rfl rfl rfl rfl rfl
theorem fd_k121 : fd_chk fd_CT7 fd_CL7 fd_FT7 fd_PT7 fd_LT7 fd_p121 1 21 prog_8_method_14_code 0 fd_c121 fd_o121 = true := by decide +kernel
theorem fd_g121 : fd_P 121 := fd_Pof fd_x7 fd_l7 fd_k121 rfl rfl rfl rfl rfl rfl rfl rfl rfl rfl
theorem fd_k122 : fd_chk fd_CT7 fd_CL7 fd_FT7 fd_PT7 fd_LT7 fd_p122 3 63 prog_8_method_26_code 0 fd_c122 fd_o122 = true := by decide +kernel
theorem fd_g122 : fd_P 122 := fd_Pof fd_x7 fd_l7 fd_k122 rfl rfl rfl rfl rfl rfl rfl rfl rfl rfl
theorem fd_k123 : fd_chk fd_CT7 fd_CL7 fd_FT7 fd_PT7 fd_LT7 fd_p123 2 44 prog_8_method_27_code 0 fd_c123 fd_o123 = true := by decide +kernel
theorem fd_g123 : fd_P 123 := fd_Pof fd_x7 fd_l7 fd_k123 rfl rfl rfl rfl rfl rfl rfl rfl rfl rfl
theorem fd_k124 : fd_chk fd_CT7 fd_CL7 fd_FT7 fd_PT7 fd_LT7 fd_p124 0 0 prog_8_method_16_code 0 fd_c124 fd_o124 = true := by decide +kernel
theorem fd_g124 : fd_P 124 := fd_Pof fd_x7 fd_l7 fd_k124 rfl rfl rfl rfl rfl rfl rfl rfl rfl rfl
theorem fd_k125 : fd_chk fd_CT7 fd_CL7 fd_FT7 fd_PT7 fd_LT7 fd_p125 5 110 prog_8_method_31_code 0 fd_c125 fd_o125 = true := by decide +kernel
theorem fd_g125 : fd_P 125 := fd_Pof fd_x7 fd_l7 fd_k125 rfl rfl rfl rfl rfl rfl rfl rfl rfl rfl
theorem fd_k126 : fd_chk fd_CT7 fd_CL7 fd_FT7 fd_PT7 fd_LT7 fd_p126 1 22 prog_8_method_28_code 0 fd_c126 fd_o126 = true := by decide +kernel
theorem fd_g126 : fd_P 126 := fd_Pof fd_x7 fd_l7 fd_k126 rfl rfl rfl rfl rfl rfl rfl rfl rfl rfl
theorem fd_k127 : fd_chk fd_CT7 fd_CL7 fd_FT7 fd_PT7 fd_LT7 fd_p127 1 25 prog_8_method_29_code 0 fd_c127 fd_o127 = true := by decide +kernel
theorem fd_g127 : fd_P 127 := fd_Pof fd_x7 fd_l7 fd_k127 rfl rfl rfl rfl rfl rfl rfl rfl rfl rfl
theorem fd_k128 : fd_chk fd_CT7 fd_CL7 fd_FT7 fd_PT7 fd_LT7 fd_p128 0 0 prog_8_method_30_code 0 fd_c128 fd_o128 = true := by decide +kernel
theorem fd_g128 : fd_P 128 := fd_Pof fd_x7 fd_l7 fd_k128 rfl rfl rfl rfl rfl rfl rfl rfl rfl rfl
theorem fd_k129 : fd_chk fd_CT7 fd_CL7 fd_FT7 fd_PT7 fd_LT7 fd_p129 4 90 prog_8_method_13_code 0 fd_c129 fd_o129 = true := by decide +kernel
theorem fd_g129 : fd_P 129 := fd_Pof fd_x7 fd_l7 fd_k129 rfl rfl rfl rfl rfl rfl rfl rfl rfl rfl
theorem fd_k130 : fd_chk fd_CT7 fd_CL7 fd_FT7 fd_PT7 fd_LT7 fd_p130 3 65 prog_8_method_12_code 0 fd_c130 fd_o130 = true := by decide +kernel
theorem fd_g130 : fd_P 130 := fd_Pof fd_x7 fd_l7 fd_k130 rfl rfl rfl rfl rfl rfl rfl rfl rfl rfl
theorem fd_k131 : fd_chk fd_CT7 fd_CL7 fd_FT7 fd_PT7 fd_LT7 fd_p131 2 43 prog_8_method_11_code 0 fd_c131 fd_o131 = true := by decide +kernel
theorem fd_g131 : fd_P 131 := fd_Pof fd_x7 fd_l7 fd_k131 rfl rfl rfl rfl rfl rfl rfl rfl rfl rfl
theorem fd_k132 : fd_chk fd_CT7 fd_CL7 fd_FT7 fd_PT7 fd_LT7 fd_p132 1 22 prog_8_method_10_code 0 fd_c132 fd_o132 = true := by decide +kernel
theorem fd_g132 : fd_P 132 := fd_Pof fd_x7 fd_l7 fd_k132 rfl rfl rfl rfl rfl rfl rfl rfl rfl rfl
theorem fd_k133 : fd_chk fd_CT7 fd_CL7 fd_FT7 fd_PT7 fd_LT7 fd_p133 5 110 prog_8_method_32_code 0 fd_c133 fd_o133 = true := by decide +kernel
theorem fd_g133 : fd_P 133 := fd_Pof fd_x7 fd_l7 fd_k133 rfl rfl rfl rfl rfl rfl rfl rfl rfl rfl
theorem fd_k134 : fd_chk fd_CT7 fd_CL7 fd_FT7 fd_PT7 fd_LT7 fd_p134 5 110 prog_8_method_34_code 0 fd_c134 fd_o134 = true := by decide +kernel
theorem fd_g134 : fd_P 134 := fd_Pof fd_x7 fd_l7 fd_k134 rfl rfl rfl rfl rfl rfl rfl rfl rfl rfl
theorem fd_k135 : fd_chk fd_CT7 fd_CL7 fd_FT7 fd_PT7 fd_LT7 fd_p135 0 0 prog_8_method_33_code 0 fd_c135 fd_o135 = true := by decide +kernel
theorem fd_g135 : fd_P 135 := fd_Pof fd_x7 fd_l7 fd_k135 rfl rfl rfl rfl rfl rfl rfl rfl rfl rfl
theorem fd_k136 : fd_chk fd_CT7 fd_CL7 fd_FT7 fd_PT7 fd_LT7 fd_p136 1 23 prog_8_method_35_code 0 fd_c136 fd_o136 = true := by decide +kernel
theorem fd_g136 : fd_P 136 := fd_Pof fd_x7 fd_l7 fd_k136 rfl rfl rfl rfl rfl rfl rfl rfl rfl rfl
theorem fd_k137 : fd_chk fd_CT7 fd_CL7 fd_FT7 fd_PT7 fd_LT7 fd_p137 5 113 prog_8_method_46_code 0 fd_c137 fd_o137 = true := by decide +kernel
theorem fd_g137 : fd_P 137 := fd_Pof fd_x7 fd_l7 fd_k137 rfl rfl rfl rfl rfl rfl rfl rfl rfl rfl
theorem fd_k138 : fd_chk fd_CT7 fd_CL7 fd_FT7 fd_PT7 fd_LT7 fd_p138 4 92 prog_8_method_45_code 0 fd_c138 fd_o138 = true := by decide +kernel
theorem fd_g138 : fd_P 138 := fd_Pof fd_x7 fd_l7 fd_k138 rfl rfl rfl rfl rfl rfl rfl rfl rfl rfl
theorem fd_k139_0 : fd_chk fd_CT7 fd_CL7 fd_FT7 fd_PT7 fd_LT7 fd_p139 3 66 prog_8_method_44_code 0 ((fd_c139.drop 0).take 30) ((fd_o139.drop 0).take 30) = true := by decide +kernel
theorem fd_k139_1 : fd_chk fd_CT7 fd_CL7 fd_FT7 fd_PT7 fd_LT7 fd_p139 3 66 prog_8_method_44_code 30 ((fd_c139.drop 30).take 30) ((fd_o139.drop 30).take 30) = true := by decide +kernel
theorem fd_k139_2 : fd_chk fd_CT7 fd_CL7 fd_FT7 fd_PT7 fd_LT7 fd_p139 3 66 prog_8_method_44_code 60 ((fd_c139.drop 60).take 30) ((fd_o139.drop 60).take 30) = true := by decide +kernel
theorem fd_k139_3 : fd_chk fd_CT7 fd_CL7 fd_FT7 fd_PT7 fd_LT7 fd_p139 3 66 prog_8_method_44_code 90 ((fd_c139.drop 90).take 30) ((fd_o139.drop 90).take 30) = true := by decide +kernel
theorem fd_k139_4 : fd_chk fd_CT7 fd_CL7 fd_FT7 fd_PT7 fd_LT7 fd_p139 3 66 prog_8_method_44_code 120 ((fd_c139.drop 120).take 30) ((fd_o139.drop 120).take 30) = true := by decide +kernel
theorem fd_k139_5 : fd_chk fd_CT7 fd_CL7 fd_FT7 fd_PT7 fd_LT7 fd_p139 3 66 prog_8_method_44_code 150 ((fd_c139.drop 150).take 30) ((fd_o139.drop 150).take 30) = true := by decide +kernel
theorem fd_k139 (q : Nat) (hq : q < 6) : fd_chk fd_CT7 fd_CL7 fd_FT7 fd_PT7 fd_LT7 fd_p139 3 66 prog_8_method_44_code (30 * q) ((fd_c139.drop (30 * q)).take 30) ((fd_o139.drop (30 * q)).take 30) = true := match q, hq with
  | 0, _ => fd_k139_0
  | 1, _ => fd_k139_1
  | 2, _ => fd_k139_2
  | 3, _ => fd_k139_3
  | 4, _ => fd_k139_4
  | 5, _ => fd_k139_5
  | q + 6, h => absurd h (by omega)
theorem fd_g139 : fd_P 139 := fd_Pof2 6 (by decide +kernel) fd_x7 fd_l7 fd_k139 rfl rfl rfl rfl rfl rfl rfl rfl rfl rfl
theorem fd_k140 : fd_chk fd_CT7 fd_CL7 fd_FT7 fd_PT7 fd_LT7 fd_p140 0 0 prog_8_method_36_code 0 fd_c140 fd_o140 = true := by decide +kernel
theorem fd_g140 : fd_P 140 := fd_Pof fd_x7 fd_l7 fd_k140 rfl rfl rfl rfl rfl rfl rfl rfl rfl rfl
theorem fd_k141 : fd_chk fd_CT7 fd_CL7 fd_FT7 fd_PT7 fd_LT7 fd_p141 2 45 prog_8_method_40_code 0 fd_c141 fd_o141 = true := by decide +kernel
theorem fd_g141 : fd_P 141 := fd_Pof fd_x7 fd_l7 fd_k141 rfl rfl rfl rfl rfl rfl rfl rfl rfl rfl
theorem fd_k142 : fd_chk fd_CT7 fd_CL7 fd_FT7 fd_PT7 fd_LT7 fd_p142 0 0 prog_8_method_38_code 0 fd_c142 fd_o142 = true := by decide +kernel
theorem fd_g142 : fd_P 142 := fd_Pof fd_x7 fd_l7 fd_k142 rfl rfl rfl rfl rfl rfl rfl rfl rfl rfl
theorem fd_k143 : fd_chk fd_CT7 fd_CL7 fd_FT7 fd_PT7 fd_LT7 fd_p143 1 21 prog_8_method_39_code 0 fd_c143 fd_o143 = true := by decide +kernel
theorem fd_g143 : fd_P 143 := fd_Pof fd_x7 fd_l7 fd_k143 rfl rfl rfl rfl rfl rfl rfl rfl rfl rfl
theorem fd_k144 : fd_chk fd_CT7 fd_CL7 fd_FT7 fd_PT7 fd_LT7 fd_p144 2 45 prog_8_method_41_code 0 fd_c144 fd_o144 = true := by decide +kernel
theorem fd_g144 : fd_P 144 := fd_Pof fd_x7 fd_l7 fd_k144 rfl rfl rfl rfl rfl rfl rfl rfl rfl rfl
theorem fd_k145 : fd_chk fd_CT7 fd_CL7 fd_FT7 fd_PT7 fd_LT7 fd_p145 2 45 prog_8_method_42_code 0 fd_c145 fd_o145 = true := by decide +kernel
theorem fd_g145 : fd_P 145 := fd_Pof fd_x7 fd_l7 fd_k145 rfl rfl rfl rfl rfl rfl rfl rfl rfl rfl
theorem fd_k146 : fd_chk fd_CT7 fd_CL7 fd_FT7 fd_PT7 fd_LT7 fd_p146 1 22 prog_8_method_37_code 0 fd_c146 fd_o146 = true := by decide +kernel
theorem fd_g146 : fd_P 146 := fd_Pof fd_x7 fd_l7 fd_k146 rfl rfl rfl rfl rfl rfl rfl rfl rfl rfl
theorem fd_k147 : fd_chk fd_CT7 fd_CL7 fd_FT7 fd_PT7 fd_LT7 fd_p147 1 21 prog_8_method_43_code 0 fd_c147 fd_o147 = true := by decide +kernel
theorem fd_g147 : fd_P 147 := fd_Pof fd_x7 fd_l7 fd_k147 rfl rfl rfl rfl rfl rfl rfl rfl rfl rfl
theorem fd_k148 : fd_chk fd_CT7 fd_CL7 fd_FT7 fd_PT7 fd_LT7 fd_p148 4 90 prog_8_method_47_code 0 fd_c148 fd_o148 = true := by decide +kernel
theorem fd_g148 : fd_P 148 := fd_Pof fd_x7 fd_l7 fd_k148 rfl rfl rfl rfl rfl rfl rfl rfl rfl rfl
theorem fd_k149_0 : fd_chk fd_CT7 fd_CL7 fd_FT7 fd_PT7 fd_LT7 fd_p149 3 67 prog_8_method_23_code 0 ((fd_c149.drop 0).take 30) ((fd_o149.drop 0).take 30) = true := by decide +kernel
theorem fd_k149_1 : fd_chk fd_CT7 fd_CL7 fd_FT7 fd_PT7 fd_LT7 fd_p149 3 67 prog_8_method_23_code 30 ((fd_c149.drop 30).take 30) ((fd_o149.drop 30).take 30) = true := by decide +kernel
theorem fd_k149_2 : fd_chk fd_CT7 fd_CL7 fd_FT7 fd_PT7 fd_LT7 fd_p149 3 67 prog_8_method_23_code 60 ((fd_c149.drop 60).take 30) ((fd_o149.drop 60).take 30) = true := by decide +kernel
theorem fd_k149_3 : fd_chk fd_CT7 fd_CL7 fd_FT7 fd_PT7 fd_LT7 fd_p149 3 67 prog_8_method_23_code 90 ((fd_c149.drop 90).take 30) ((fd_o149.drop 90).take 30) = true := by decide +kernel
theorem fd_k149 (q : Nat) (hq : q < 4) : fd_chk fd_CT7 fd_CL7 fd_FT7 fd_PT7 fd_LT7 fd_p149 3 67 prog_8_method_23_code (30 * q) ((fd_c149.drop (30 * q)).take 30) ((fd_o149.drop (30 * q)).take 30) = true := match q, hq with
  | 0, _ => fd_k149_0
  | 1, _ => fd_k149_1
  | 2, _ => fd_k149_2
  | 3, _ => fd_k149_3
  | q + 4, h => absurd h (by omega)
theorem fd_g149 : fd_P 149 := fd_Pof2 4 (by decide +kernel) fd_x7 fd_l7 fd_k149 rfl rfl rfl rfl rfl rfl rfl rfl rfl rfl
theorem fd_k150 : fd_chk fd_CT7 fd_CL7 fd_FT7 fd_PT7 fd_LT7 fd_p150 1 21 prog_8_method_22_code 0 fd_c150 fd_o150 = true := by decide +kernel
theorem fd_g150 : fd_P 150 := fd_Pof fd_x7 fd_l7 fd_k150 rfl rfl rfl rfl rfl rfl rfl rfl rfl rfl
theorem fd_k151 : fd_chk fd_CT7 fd_CL7 fd_FT7 fd_PT7 fd_LT7 fd_p151 0 0 prog_8_method_9_code 0 fd_c151 fd_o151 = true := by decide +kernel
theorem fd_g151 : fd_P 151 := fd_Pof fd_x7 fd_l7 fd_k151 rfl rfl rfl rfl rfl rfl rfl rfl rfl rfl
theorem fd_k152 : fd_chk fd_CT7 fd_CL7 fd_FT7 fd_PT7 fd_LT7 fd_p152 2 43 prog_8_method_21_code 0 fd_c152 fd_o152 = true := by decide +kernel
theorem fd_g152 : fd_P 152 := fd_Pof fd_x7 fd_l7 fd_k152 rfl rfl rfl rfl rfl rfl rfl rfl rfl rfl
theorem fd_k153 : fd_chk fd_CT7 fd_CL7 fd_FT7 fd_PT7 fd_LT7 fd_p153 2 46 prog_8_method_19_code 0 fd_c153 fd_o153 = true := by decide +kernel
theorem fd_g153 : fd_P 153 := fd_Pof fd_x7 fd_l7 fd_k153 rfl rfl rfl rfl rfl rfl rfl rfl rfl rfl
theorem fd_k154 : fd_chk fd_CT7 fd_CL7 fd_FT7 fd_PT7 fd_LT7 fd_p154 1 20 prog_8_method_18_code 0 fd_c154 fd_o154 = true := by decide +kernel
theorem fd_g154 : fd_P 154 := fd_Pof fd_x7 fd_l7 fd_k154 rfl rfl rfl rfl rfl rfl rfl rfl rfl rfl
theorem fd_k155 : fd_chk fd_CT7 fd_CL7 fd_FT7 fd_PT7 fd_LT7 fd_p155 0 0 prog_8_method_17_code 0 fd_c155 fd_o155 = true := by decide +kernel
theorem fd_g155 : fd_P 155 := fd_Pof fd_x7 fd_l7 fd_k155 rfl rfl rfl rfl rfl rfl rfl rfl rfl rfl
theorem fd_k156 : fd_chk fd_CT7 fd_CL7 fd_FT7 fd_PT7 fd_LT7 fd_p156 4 98 prog_8_method_51_code 0 fd_c156 fd_o156 = true := by decide +kernel
theorem fd_g156 : fd_P 156 := fd_Pof fd_x7 fd_l7 fd_k156 rfl rfl rfl rfl rfl rfl rfl rfl rfl rfl
theorem fd_k157 : fd_chk fd_CT7 fd_CL7 fd_FT7 fd_PT7 fd_LT7 fd_p157 1 21 prog_8_method_48_code 0 fd_c157 fd_o157 = true := by decide +kernel
theorem fd_g157 : fd_P 157 := fd_Pof fd_x7 fd_l7 fd_k157 rfl rfl rfl rfl rfl rfl rfl rfl rfl rfl
theorem fd_k158 : fd_chk fd_CT7 fd_CL7 fd_FT7 fd_PT7 fd_LT7 fd_p158 3 74 prog_8_method_20_code 0 fd_c158 fd_o158 = true := by decide +kernel
theorem fd_g158 : fd_P 158 := fd_Pof fd_x7 fd_l7 fd_k158 rfl rfl rfl rfl rfl rfl rfl rfl rfl rfl
theorem fd_k159 : fd_chk fd_CT7 fd_CL7 fd_FT7 fd_PT7 fd_LT7 fd_p159 0 0 prog_8_method_49_code 0 fd_c159 fd_o159 = true := by decide +kernel
theorem fd_g159 : fd_P 159 := fd_Pof fd_x7 fd_l7 fd_k159 rfl rfl rfl rfl rfl rfl rfl rfl rfl rfl
theorem fd_k160 : fd_chk fd_CT7 fd_CL7 fd_FT7 fd_PT7 fd_LT7 fd_p160 0 0 prog_8_method_50_code 0 fd_c160 fd_o160 = true := by decide +kernel
theorem fd_g160 : fd_P 160 := fd_Pof fd_x7 fd_l7 fd_k160 rfl rfl rfl rfl rfl rfl rfl rfl rfl rfl
theorem fd_k161 : fd_chk fd_CT7 fd_CL7 fd_FT7 fd_PT7 fd_LT7 fd_p161 3 68 prog_8_method_54_code 0 fd_c161 fd_o161 = true := by decide +kernel
theorem fd_g161 : fd_P 161 := fd_Pof fd_x7 fd_l7 fd_k161 rfl rfl rfl rfl rfl rfl rfl rfl rfl rfl
theorem fd_k162 : fd_chk fd_CT7 fd_CL7 fd_FT7 fd_PT7 fd_LT7 fd_p162 2 44 prog_8_method_53_code 0 fd_c162 fd_o162 = true := by decide +kernel
theorem fd_g162 : fd_P 162 := fd_Pof fd_x7 fd_l7 fd_k162 rfl rfl rfl rfl rfl rfl rfl rfl rfl rfl
theorem fd_k163 : fd_chk fd_CT7 fd_CL7 fd_FT7 fd_PT7 fd_LT7 fd_p163 4 95 prog_8_method_56_code 0 fd_c163 fd_o163 = true := by decide +kernel
theorem fd_g163 : fd_P 163 := fd_Pof fd_x7 fd_l7 fd_k163 rfl rfl rfl rfl rfl rfl rfl rfl rfl rfl
theorem fd_k164 : fd_chk fd_CT7 fd_CL7 fd_FT7 fd_PT7 fd_LT7 fd_p164 3 68 prog_8_method_55_code 0 fd_c164 fd_o164 = true := by decide +kernel
theorem fd_g164 : fd_P 164 := fd_Pof fd_x7 fd_l7 fd_k164 rfl rfl rfl rfl rfl rfl rfl rfl rfl rfl
theorem fd_k165 : fd_chk fd_CT7 fd_CL7 fd_FT7 fd_PT7 fd_LT7 fd_p165 0 0 prog_8_method_52_code 0 fd_c165 fd_o165 = true := by decide +kernel
theorem fd_g165 : fd_P 165 := fd_Pof fd_x7 fd_l7 fd_k165 rfl rfl rfl rfl rfl rfl rfl rfl rfl rfl
theorem fd_k166 : fd_chk fd_CT7 fd_CL7 fd_FT7 fd_PT7 fd_LT7 fd_p166 4 90 prog_8_method_57_code 0 fd_c166 fd_o166 = true := by decide +kernel
theorem fd_g166 : fd_P 166 := fd_Pof fd_x7 fd_l7 fd_k166 rfl rfl rfl rfl rfl rfl rfl rfl rfl rfl
theorem fd_k167 : fd_chk fd_CT7 fd_CL7 fd_FT7 fd_PT7 fd_LT7 fd_p167 0 0 prog_8_method_24_code 0 fd_c167 fd_o167 = true := by decide +kernel
theorem fd_g167 : fd_P 167 := fd_Pof fd_x7 fd_l7 fd_k167 rfl rfl rfl rfl rfl rfl rfl rfl rfl rfl
theorem fd_k168 : fd_chk fd_CT7 fd_CL7 fd_FT7 fd_PT7 fd_LT7 fd_p168 5 122 prog_8_method_60_code 0 fd_c168 fd_o168 = true := by decide +kernel
theorem fd_g168 : fd_P 168 := fd_Pof fd_x7 fd_l7 fd_k168 rfl rfl rfl rfl rfl rfl rfl rfl rfl rfl
theorem fd_k169 : fd_chk fd_CT7 fd_CL7 fd_FT7 fd_PT7 fd_LT7 fd_p169 4 98 prog_8_method_58_code 0 fd_c169 fd_o169 = true := by decide +kernel
theorem fd_g169 : fd_P 169 := fd_Pof fd_x7 fd_l7 fd_k169 rfl rfl rfl rfl rfl rfl rfl rfl rfl rfl
theorem fd_k170 : fd_chk fd_CT7 fd_CL7 fd_FT7 fd_PT7 fd_LT7 fd_p170 0 0 prog_8_method_59_code 0 fd_c170 fd_o170 = true := by decide +kernel
theorem fd_g170 : fd_P 170 := fd_Pof fd_x7 fd_l7 fd_k170 rfl rfl rfl rfl rfl rfl rfl rfl rfl rfl
theorem fd_k171 : fd_chk fd_CT7 fd_CL7 fd_FT7 fd_PT7 fd_LT7 fd_p171 5 110 prog_8_method_61_code 0 fd_c171 fd_o171 = true := by decide +kernel
theorem fd_g171 : fd_P 171 := fd_Pof fd_x7 fd_l7 fd_k171 rfl rfl rfl rfl rfl rfl rfl rfl rfl rfl
theorem fd_k172 : fd_chk fd_CT7 fd_CL7 fd_FT7 fd_PT7 fd_LT7 fd_p172 0 0 prog_8_method_6_code 0 fd_c172 fd_o172 = true := by decide +kernel
theorem fd_g172 : fd_P 172 := fd_Pof fd_x7 fd_l7 fd_k172 rfl rfl rfl rfl rfl rfl rfl rfl rfl rfl
theorem fd_k173 : fd_chk fd_CT7 fd_CL7 fd_FT7 fd_PT7 fd_LT7 fd_p173 0 0 prog_8_method_7_code 0 fd_c173 fd_o173 = true := by decide +kernel
theorem fd_g173 : fd_P 173 := fd_Pof fd_x7 fd_l7 fd_k173 rfl rfl rfl rfl rfl rfl rfl rfl rfl rfl
theorem fd_k174 : fd_chk fd_CT7 fd_CL7 fd_FT7 fd_PT7 fd_LT7 fd_p174 5 110 prog_8_method_62_code 0 fd_c174 fd_o174 = true := by decide +kernel
theorem fd_g174 : fd_P 174 := fd_Pof fd_x7 fd_l7 fd_k174 rfl rfl rfl rfl rfl rfl rfl rfl rfl rfl
theorem fd_k175 : fd_chk fd_CT7 fd_CL7 fd_FT7 fd_PT7 fd_LT7 fd_p175 5 110 prog_8_method_63_code 0 fd_c175 fd_o175 = true := by decide +kernel
theorem fd_g175 : fd_P 175 := fd_Pof fd_x7 fd_l7 fd_k175 rfl rfl rfl rfl rfl rfl rfl rfl rfl rfl
theorem fd_k176 : fd_chk fd_CT7 fd_CL7 fd_FT7 fd_PT7 fd_LT7 fd_p176 0 0 prog_8_method_64_code 0 fd_c176 fd_o176 = true := by decide +kernel
theorem fd_g176 : fd_P 176 := fd_Pof fd_x7 fd_l7 fd_k176 rfl rfl rfl rfl rfl rfl rfl rfl rfl rfl
theorem fd_k177 : fd_chk fd_CT7 fd_CL7 fd_FT7 fd_PT7 fd_LT7 fd_p177 0 0 prog_8_method_65_code 0 fd_c177 fd_o177 = true := by decide +kernel
theorem fd_g177 : fd_P 177 := fd_Pof fd_x7 fd_l7 fd_k177 rfl rfl rfl rfl rfl rfl rfl rfl rfl rfl
theorem fd_k178 : fd_chk fd_CT7 fd_CL7 fd_FT7 fd_PT7 fd_LT7 fd_p178 5 113 prog_8_method_66_code 0 fd_c178 fd_o178 = true := by decide +kernel
theorem fd_g178 : fd_P 178 := fd_Pof fd_x7 fd_l7 fd_k178 rfl rfl rfl rfl rfl rfl rfl rfl rfl rfl
theorem fd_k179 : fd_chk fd_CT7 fd_CL7 fd_FT7 fd_PT7 fd_LT7 fd_p179 0 0 prog_8_method_67_code 0 fd_c179 fd_o179 = true := by decide +kernel
theorem fd_g179 : fd_P 179 := fd_Pof fd_x7 fd_l7 fd_k179 rfl rfl rfl rfl rfl rfl rfl rfl rfl rfl
theorem fd_k180 : fd_chk fd_CT7 fd_CL7 fd_FT7 fd_PT7 fd_LT7 fd_p180 5 122 prog_8_method_68_code 0 fd_c180 fd_o180 = true := by decide +kernel
theorem fd_g180 : fd_P 180 := fd_Pof fd_x7 fd_l7 fd_k180 rfl rfl rfl rfl rfl rfl rfl rfl rfl rfl
theorem fd_k181 : fd_chk fd_CT7 fd_CL7 fd_FT7 fd_PT7 fd_LT7 fd_p181 5 122 prog_8_method_69_code 0 fd_c181 fd_o181 = true := by decide +kernel
theorem fd_g181 : fd_P 181 := fd_Pof fd_x7 fd_l7 fd_k181 rfl rfl rfl rfl rfl rfl rfl rfl rfl rfl
theorem fd_k182 : fd_chk fd_CT8 fd_CL8 fd_FT8 fd_PT8 fd_LT8 fd_p182 0 0 prog_9_method_49_code 0 fd_c182 fd_o182 = true := by decide +kernel
theorem fd_g182 : fd_P 182 := fd_Pof fd_x8 fd_l8 fd_k182 rfl rfl rfl rfl rfl rfl rfl rfl rfl rfl
theorem fd_k183 : fd_chk fd_CT9 fd_CL9 fd_FT9 fd_PT9 fd_LT9 fd_p183 0 0 prog_12_method_103_code 0 fd_c183 fd_o183 = true := by decide +kernel
theorem fd_g183 : fd_P 183 := fd_Pof fd_x9 fd_l9 fd_k183 rfl rfl rfl rfl rfl rfl rfl rfl rfl rfl
theorem fd_k184 : fd_chk fd_CT0 fd_CL0 fd_FT0 fd_PT0 fd_LT0 fd_p184 0 0 prog_1_method_1_code 0 fd_c184 fd_o184 = true := by decide +kernel
theorem fd_g184 : fd_P 184 := fd_Pof fd_x0 fd_l0 fd_k184 rfl rfl rfl rfl rfl rfl rfl rfl rfl rfl
theorem fd_k185 : fd_chk fd_CT1 fd_CL1 fd_FT1 fd_PT1 fd_LT1 fd_p185 0 0 prog_2_method_1_code 0 fd_c185 fd_o185 = true := by decide +kernel
theorem fd_g185 : fd_P 185 := fd_Pof fd_x1 fd_l1 fd_k185 rfl rfl rfl rfl rfl rfl rfl rfl rfl rfl
theorem fd_k186 : fd_chk fd_CT2 fd_CL2 fd_FT2 fd_PT2 fd_LT2 fd_p186 0 0 prog_3_method_1_code 0 fd_c186 fd_o186 = true := by decide +kernel
theorem fd_g186 : fd_P 186 := fd_Pof fd_x2 fd_l2 fd_k186 rfl rfl rfl rfl rfl rfl rfl rfl rfl rfl
theorem fd_k187 : fd_chk fd_CT3 fd_CL3 fd_FT3 fd_PT3 fd_LT3 fd_p187 0 0 prog_4_method_1_code 0 fd_c187 fd_o187 = true := by decide +kernel
theorem fd_g187 : fd_P 187 := fd_Pof fd_x3 fd_l3 fd_k187 rfl rfl rfl rfl rfl rfl rfl rfl rfl rfl
theorem fd_k188 : fd_chk fd_CT4 fd_CL4 fd_FT4 fd_PT4 fd_LT4 fd_p188 0 0 prog_5_method_1_code 0 fd_c188 fd_o188 = true := by decide +kernel
theorem fd_g188 : fd_P 188 := fd_Pof fd_x4 fd_l4 fd_k188 rfl rfl rfl rfl rfl rfl rfl rfl rfl rfl
theorem fd_k189 : fd_chk fd_CT5 fd_CL5 fd_FT5 fd_PT5 fd_LT5 fd_p189 0 0 prog_6_method_1_code 0 fd_c189 fd_o189 = true := by decide +kernel
theorem fd_g189 : fd_P 189 := fd_Pof fd_x5 fd_l5 fd_k189 rfl rfl rfl rfl rfl rfl rfl rfl rfl rfl
theorem fd_k190 : fd_chk fd_CT7 fd_CL7 fd_FT7 fd_PT7 fd_LT7 fd_p190 0 0 prog_8_method_1_code 0 fd_c190 fd_o190 = true := by decide +kernel
theorem fd_g190 : fd_P 190 := fd_Pof fd_x7 fd_l7 fd_k190 rfl rfl rfl rfl rfl rfl rfl rfl rfl rfl
theorem fd_k191_0 : fd_chk fd_CT6 fd_CL6 fd_FT6 fd_PT6 fd_LT6 fd_p191 9 324 code 0 ((fd_c191.drop 0).take 30) ((fd_o191.drop 0).take 30) = true := by decide +kernel
theorem fd_k191_1 : fd_chk fd_CT6 fd_CL6 fd_FT6 fd_PT6 fd_LT6 fd_p191 9 324 code 30 ((fd_c191.drop 30).take 30) ((fd_o191.drop 30).take 30) = true := by decide +kernel
theorem fd_k191_2 : fd_chk fd_CT6 fd_CL6 fd_FT6 fd_PT6 fd_LT6 fd_p191 9 324 code 60 ((fd_c191.drop 60).take 30) ((fd_o191.drop 60).take 30) = true := by decide +kernel
theorem fd_k191_3 : fd_chk fd_CT6 fd_CL6 fd_FT6 fd_PT6 fd_LT6 fd_p191 9 324 code 90 ((fd_c191.drop 90).take 30) ((fd_o191.drop 90).take 30) = true := by decide +kernel
theorem fd_k191_4 : fd_chk fd_CT6 fd_CL6 fd_FT6 fd_PT6 fd_LT6 fd_p191 9 324 code 120 ((fd_c191.drop 120).take 30) ((fd_o191.drop 120).take 30) = true := by decide +kernel
theorem fd_k191_5 : fd_chk fd_CT6 fd_CL6 fd_FT6 fd_PT6 fd_LT6 fd_p191 9 324 code 150 ((fd_c191.drop 150).take 30) ((fd_o191.drop 150).take 30) = true := by decide +kernel
theorem fd_k191_6 : fd_chk fd_CT6 fd_CL6 fd_FT6 fd_PT6 fd_LT6 fd_p191 9 324 code 180 ((fd_c191.drop 180).take 30) ((fd_o191.drop 180).take 30) = true := by decide +kernel
theorem fd_k191_7 : fd_chk fd_CT6 fd_CL6 fd_FT6 fd_PT6 fd_LT6 fd_p191 9 324 code 210 ((fd_c191.drop 210).take 30) ((fd_o191.drop 210).take 30) = true := by decide +kernel
theorem fd_k191_8 : fd_chk fd_CT6 fd_CL6 fd_FT6 fd_PT6 fd_LT6 fd_p191 9 324 code 240 ((fd_c191.drop 240).take 30) ((fd_o191.drop 240).take 30) = true := by decide +kernel
theorem fd_k191_9 : fd_chk fd_CT6 fd_CL6 fd_FT6 fd_PT6 fd_LT6 fd_p191 9 324 code 270 ((fd_c191.drop 270).take 30) ((fd_o191.drop 270).take 30) = true := by decide +kernel
theorem fd_k191_10 : fd_chk fd_CT6 fd_CL6 fd_FT6 fd_PT6 fd_LT6 fd_p191 9 324 code 300 ((fd_c191.drop 300).take 30) ((fd_o191.drop 300).take 30) = true := by decide +kernel
theorem fd_k191_11 : fd_chk fd_CT6 fd_CL6 fd_FT6 fd_PT6 fd_LT6 fd_p191 9 324 code 330 ((fd_c191.drop 330).take 30) ((fd_o191.drop 330).take 30) = true := by decide +kernel
theorem fd_k191_12 : fd_chk fd_CT6 fd_CL6 fd_FT6 fd_PT6 fd_LT6 fd_p191 9 324 code 360 ((fd_c191.drop 360).take 30) ((fd_o191.drop 360).take 30) = true := by decide +kernel
theorem fd_k191_13 : fd_chk fd_CT6 fd_CL6 fd_FT6 fd_PT6 fd_LT6 fd_p191 9 324 code 390 ((fd_c191.drop 390).take 30) ((fd_o191.drop 390).take 30) = true := by decide +kernel
theorem fd_k191_14 : fd_chk fd_CT6 fd_CL6 fd_FT6 fd_PT6 fd_LT6 fd_p191 9 324 code 420 ((fd_c191.drop 420).take 30) ((fd_o191.drop 420).take 30) = true := by decide +kernel
theorem fd_k191_15 : fd_chk fd_CT6 fd_CL6 fd_FT6 fd_PT6 fd_LT6 fd_p191 9 324 code 450 ((fd_c191.drop 450).take 30) ((fd_o191.drop 450).take 30) = true := by decide +kernel
theorem fd_k191_16 : fd_chk fd_CT6 fd_CL6 fd_FT6 fd_PT6 fd_LT6 fd_p191 9 324 code 480 ((fd_c191.drop 480).take 30) ((fd_o191.drop 480).take 30) = true := by decide +kernel
theorem fd_k191_17 : fd_chk fd_CT6 fd_CL6 fd_FT6 fd_PT6 fd_LT6 fd_p191 9 324 code 510 ((fd_c191.drop 510).take 30) ((fd_o191.drop 510).take 30) = true := by decide +kernel
theorem fd_k191_18 : fd_chk fd_CT6 fd_CL6 fd_FT6 fd_PT6 fd_LT6 fd_p191 9 324 code 540 ((fd_c191.drop 540).take 30) ((fd_o191.drop 540).take 30) = true := by decide +kernel
theorem fd_k191 (q : Nat) (hq : q < 19) : fd_chk fd_CT6 fd_CL6 fd_FT6 fd_PT6 fd_LT6 fd_p191 9 324 code (30 * q) ((fd_c191.drop (30 * q)).take 30) ((fd_o191.drop (30 * q)).take 30) = true := match q, hq with
  | 0, _ => fd_k191_0
  | 1, _ => fd_k191_1
  | 2, _ => fd_k191_2
  | 3, _ => fd_k191_3
  | 4, _ => fd_k191_4
  | 5, _ => fd_k191_5
  | 6, _ => fd_k191_6
  | 7, _ => fd_k191_7
  | 8, _ => fd_k191_8
  | 9, _ => fd_k191_9
  | 10, _ => fd_k191_10
  | 11, _ => fd_k191_11
  | 12, _ => fd_k191_12
  | 13, _ => fd_k191_13
  | 14, _ => fd_k191_14
  | 15, _ => fd_k191_15
  | 16, _ => fd_k191_16
  | 17, _ => fd_k191_17
  | 18, _ => fd_k191_18
  | q + 19, h => absurd h (by omega)
theorem fd_g191 : fd_P 191 := fd_Pof2 19 (by decide +kernel) fd_x6 fd_l6 fd_k191 rfl rfl rfl rfl rfl rfl rfl rfl rfl rfl
end
section
theorem fd_gX (n : Nat) : fd_P (n + 192) := by
  have e1 : fd_C (n + 192) = [] := by
    show (fd_Cs[n + 192]?).getD [] = []
    rw [List.getElem?_eq_none (Nat.le_trans (Nat.le_of_eq (by rfl : fd_Cs.length = 192)) (by omega))]
    rfl
  have e2 : fd_oi (n + 192) = 1000 := by
    show (fd_ois[n + 192]?).getD 1000 = 1000
    rw [List.getElem?_eq_none (Nat.le_trans (Nat.le_of_eq (by rfl : fd_ois.length = 192)) (by omega))]
    rfl
  refine ⟨fun i mm h => ?_, fun idx k h => ?_⟩
  · rw [e1] at h
    cases h
  · unfold fd_LT at h
    rw [e2] at h
    cases h
theorem fd_all (j : Nat) : fd_P j := match j with
  | 0 => fd_g0
  | 1 => fd_g1
  | 2 => fd_g2
  | 3 => fd_g3
  | 4 => fd_g4
  | 5 => fd_g5
  | 6 => fd_g6
  | 7 => fd_g7
  | 8 => fd_g8
  | 9 => fd_g9
  | 10 => fd_g10
  | 11 => fd_g11
  | 12 => fd_g12
  | 13 => fd_g13
  | 14 => fd_g14
  | 15 => fd_g15
  | 16 => fd_g16
  | 17 => fd_g17
  | 18 => fd_g18
  | 19 => fd_g19
  | 20 => fd_g20
  | 21 => fd_g21
  | 22 => fd_g22
  | 23 => fd_g23
  | 24 => fd_g24
  | 25 => fd_g25
  | 26 => fd_g26
  | 27 => fd_g27
  | 28 => fd_g28
  | 29 => fd_g29
  | 30 => fd_g30
  | 31 => fd_g31
  | 32 => fd_g32
  | 33 => fd_g33
  | 34 => fd_g34
  | 35 => fd_g35
  | 36 => fd_g36
  | 37 => fd_g37
  | 38 => fd_g38
  | 39 => fd_g39
  | 40 => fd_g40
  | 41 => fd_g41
  | 42 => fd_g42
  | 43 => fd_g43
  | 44 => fd_g44
  | 45 => fd_g45
  | 46 => fd_g46
  | 47 => fd_g47
  | 48 => fd_g48
  | 49 => fd_g49
  | 50 => fd_g50
  | 51 => fd_g51
  | 52 => fd_g52
  | 53 => fd_g53
  | 54 => fd_g54
  | 55 => fd_g55
  | 56 => fd_g56
  | 57 => fd_g57
  | 58 => fd_g58
  | 59 => fd_g59
  | 60 => fd_g60
  | 61 => fd_g61
  | 62 => fd_g62
  | 63 => fd_g63
  | 64 => fd_g64
  | 65 => fd_g65
  | 66 => fd_g66
  | 67 => fd_g67
  | 68 => fd_g68
  | 69 => fd_g69
  | 70 => fd_g70
  | 71 => fd_g71
  | 72 => fd_g72
  | 73 => fd_g73
  | 74 => fd_g74
  | 75 => fd_g75
  | 76 => fd_g76
  | 77 => fd_g77
  | 78 => fd_g78
  | 79 => fd_g79
  | 80 => fd_g80
  | 81 => fd_g81
  | 82 => fd_g82
  | 83 => fd_g83
  | 84 => fd_g84
  | 85 => fd_g85
  | 86 => fd_g86
  | 87 => fd_g87
  | 88 => fd_g88
  | 89 => fd_g89
  | 90 => fd_g90
  | 91 => fd_g91
  | 92 => fd_g92
  | 93 => fd_g93
  | 94 => fd_g94
  | 95 => fd_g95
  | 96 => fd_g96
  | 97 => fd_g97
  | 98 => fd_g98
  | 99 => fd_g99
  | 100 => fd_g100
  | 101 => fd_g101
  | 102 => fd_g102
  | 103 => fd_g103
  | 104 => fd_g104
  | 105 => fd_g105
  | 106 => fd_g106
  | 107 => fd_g107
  | 108 => fd_g108
  | 109 => fd_g109
  | 110 => fd_g110
  | 111 => fd_g111
  | 112 => fd_g112
  | 113 => fd_g113
  | 114 => fd_g114
  | 115 => fd_g115
  | 116 => fd_g116
  | 117 => fd_g117
  | 118 => fd_g118
  | 119 => fd_g119
  | 120 => fd_g120
  | 121 => fd_g121
  | 122 => fd_g122
  | 123 => fd_g123
  | 124 => fd_g124
  | 125 => fd_g125
  | 126 => fd_g126
  | 127 => fd_g127
  | 128 => fd_g128
  | 129 => fd_g129
  | 130 => fd_g130
  | 131 => fd_g131
  | 132 => fd_g132
  | 133 => fd_g133
  | 134 => fd_g134
  | 135 => fd_g135
  | 136 => fd_g136
  | 137 => fd_g137
  | 138 => fd_g138
  | 139 => fd_g139
  | 140 => fd_g140
  | 141 => fd_g141
  | 142 => fd_g142
  | 143 => fd_g143
  | 144 => fd_g144
  | 145 => fd_g145
  | 146 => fd_g146
  | 147 => fd_g147
  | 148 => fd_g148
  | 149 => fd_g149
  | 150 => fd_g150
  | 151 => fd_g151
  | 152 => fd_g152
  | 153 => fd_g153
  | 154 => fd_g154
  | 155 => fd_g155
  | 156 => fd_g156
  | 157 => fd_g157
  | 158 => fd_g158
  | 159 => fd_g159
  | 160 => fd_g160
  | 161 => fd_g161
  | 162 => fd_g162
  | 163 => fd_g163
  | 164 => fd_g164
  | 165 => fd_g165
  | 166 => fd_g166
  | 167 => fd_g167
  | 168 => fd_g168
  | 169 => fd_g169
  | 170 => fd_g170
  | 171 => fd_g171
  | 172 => fd_g172
  | 173 => fd_g173
  | 174 => fd_g174
  | 175 => fd_g175
  | 176 => fd_g176
  | 177 => fd_g177
  | 178 => fd_g178
  | 179 => fd_g179
  | 180 => fd_g180
  | 181 => fd_g181
  | 182 => fd_g182
  | 183 => fd_g183
  | 184 => fd_g184
  | 185 => fd_g185
  | 186 => fd_g186
  | 187 => fd_g187
  | 188 => fd_g188
  | 189 => fd_g189
  | 190 => fd_g190
  | 191 => fd_g191
  | n + 192 => fd_gX n
theorem fd_PO : fx_PO fd_NW fd_TG fd_cl fd_C fd_G fd_y fd_b fd_PC fd_RO fd_CT fd_CL fd_FT fd_PT fd_LT := ⟨fd_good, fd_Cl, fun j i mm h => (fd_all j).1 i mm h, fun j idx k h hk => (fd_all j).2 idx k h hk⟩
end
section
/-! the cells of the two objects: 0 the class' object, 1 strip, 5 trial (each with three rows behind it), 9 lines (rows 10 to 16), 17 pad (18), 19 history (20: six strips at 21, 25 .. 41), 45 slots (46: two strips at 48, 52; 47), 56 the reference's object (rows 57 to 70); 71 the script -/
abbrev fd_st (a : Nat) : List fx_S := [.inr (.inl (5, [some (a + 1), some (a + 2), some (a + 3)])), .inl (0, 144), .inl (0, 6), .inl (0, 24)]
abbrev fd_SH : List fx_S := [.inr (.inl (0, [some 1, some 5, some 9, some 17, some 19, some 45])),
  .inr (.inl (5, [some 2, some 3, some 4])), .inl (0, 144), .inl (0, 6), .inl (0, 24), .inr (.inl (5, [some 6, some 7, some 8])), .inl (0, 144), .inl (0, 6), .inl (0, 24),
  .inr (.inl (2, [none, some 10, some 11, some 12, some 13, some 14, some 15, some 16])), .inl (0, 144), .inl (0, 72), .inl (0, 72), .inl (0, 72), .inl (0, 72), .inl (0, 72), .inl (1, 72),
  .inr (.inl (3, [some 18, none])), .inl (2, 60),
  .inr (.inl (1, [some 20, none, none])), .inr (.inr [21, 25, 29, 33, 37, 41]),
  .inr (.inl (5, [some 22, some 23, some 24])), .inl (0, 144), .inl (0, 6), .inl (0, 24), .inr (.inl (5, [some 26, some 27, some 28])), .inl (0, 144), .inl (0, 6), .inl (0, 24),
  .inr (.inl (5, [some 30, some 31, some 32])), .inl (0, 144), .inl (0, 6), .inl (0, 24), .inr (.inl (5, [some 34, some 35, some 36])), .inl (0, 144), .inl (0, 6), .inl (0, 24),
  .inr (.inl (5, [some 38, some 39, some 40])), .inl (0, 144), .inl (0, 6), .inl (0, 24), .inr (.inl (5, [some 42, some 43, some 44])), .inl (0, 144), .inl (0, 6), .inl (0, 24),
  .inr (.inl (4, [some 46, some 47])), .inr (.inr [48, 52]), .inl (1, 2),
  .inr (.inl (5, [some 49, some 50, some 51])), .inl (0, 144), .inl (0, 6), .inl (0, 24), .inr (.inl (5, [some 53, some 54, some 55])), .inl (0, 144), .inl (0, 6), .inl (0, 24),
  .inr (.inl (6, [some 57, some 58, some 59, some 60, some 61, some 62, some 63, some 64, some 65, some 66, some 67, some 68, some 69, some 70, none, none, none, none, none, none])),
  .inl (0, 150), .inl (0, 150), .inl (0, 150), .inl (0, 900), .inl (0, 300), .inl (1, 2), .inl (0, 144), .inl (0, 72), .inl (0, 72), .inl (0, 72), .inl (0, 72), .inl (0, 72), .inl (0, 32), .inl (2, 60)]
/-- a strip lies at a -/
def fd_isS (a : Nat) : Prop := fd_SH[a]? = some (.inr (.inl (5, [some (a + 1), some (a + 2), some (a + 3)]))) ∧ fd_SH[a + 1]? = some (.inl (0, 144)) ∧ fd_SH[a + 2]? = some (.inl (0, 6)) ∧ fd_SH[a + 3]? = some (.inl (0, 24))
abbrev fx_u : fx_V := .inr (.inr none)
abbrev fx_f (a : Nat) : fx_V := .inr (.inr (some a))
abbrev fx_Sc : Type := Nat × (Nat → Int)
def Ev (X : fx_Sc) (j i : Nat) (ls st : List fx_V) (M : fx_M) (r : Option fx_V) (M' : fx_M) : Prop := ∃ n, fx_ex fd_C fd_G fd_SH X.1 X.2 n j i ls st M = some (r, M')
section EV
variable {C : Nat → List Instr} {G : fx_G} {SH : List fx_S} {Lx : Nat} {MX : Nat → Int}
theorem fx_ex_mono {n : Nat} : ∀ {j i : Nat} {ls st : List fx_V} {M : fx_M} {x : Option fx_V × fx_M}, fx_ex C G SH Lx MX n j i ls st M = some x → fx_ex C G SH Lx MX (n + 1) j i ls st M = some x := by
  induction n with
  | zero => intro j i ls st M x h; cases h
  | succ n ih =>
    intro j i ls st M x h
    unfold fx_ex at h ⊢
    cases hmm : (C j)[i]? with
    | none => rw [hmm] at h; cases h
    | some mm =>
      rw [hmm] at h
      split at h
      next => exact h
      next => exact h
      next k =>
        split at h
        next hc =>
          rw [if_pos hc]
          split at h
          next r1 M1 hex => rw [ih hex]; exact ih h
          next => cases h
        next => cases h
      next k =>
        split at h
        next hc =>
          rw [if_pos hc]
          split at h
          next r1 M1 hex => rw [ih hex]; exact ih h
          next => cases h
        next => cases h
      next =>
        split at h
        next i' ls' st' M1 hs => exact ih h
        next => cases h
      next => cases h
theorem fx_ex_le {n m : Nat} (hnm : n ≤ m) {j i : Nat} {ls st : List fx_V} {M : fx_M} {x : Option fx_V × fx_M} (h : fx_ex C G SH Lx MX n j i ls st M = some x) : fx_ex C G SH Lx MX m j i ls st M = some x := by
  induction hnm with
  | refl => exact h
  | step _ ih => exact fx_ex_mono ih
end EV
section EVR
variable {X : fx_Sc} {j i i' : Nat} {ls ls' st st' rest : List fx_V} {M M1 M' : fx_M} {r : Option fx_V} {c : List Instr}
/-- an instruction that neither calls nor returns -/
def fx_pl (mm : Instr) : Bool := match mm with
  | .ireturn => false
  | .return_ => false
  | .invokestatic _ => false
  | .invokevirtual _ => false
  | _ => true
theorem Ev.one {mm : Instr} (hC : fd_C j = c) (hi : c[i]? = some mm) (hp : fx_pl mm = true) (hs : fx_step fd_SH X.1 X.2 mm i ls st M = some (i', ls', st', M1)) (k : Ev X j i' ls' st' M1 r M') : Ev X j i ls st M r M' := by
  obtain ⟨n, hn⟩ := k
  refine ⟨n + 1, ?_⟩
  unfold fx_ex
  rw [hC, hi]
  cases mm <;> first | cases hp | skip
  all_goals (simp only [hs]; exact hn)
/-- some instructions of the kind, one behind another -/
def fx_run (c : List Instr) (X : fx_Sc) : Nat → Nat → List fx_V → List fx_V → fx_M → fx_O
  | 0, i, ls, st, M => some (i, ls, st, M)
  | n + 1, i, ls, st, M => match c[i]? with
    | none => none
    | some mm => if fx_pl mm = true then (match fx_step fd_SH X.1 X.2 mm i ls st M with
      | some (i', ls', st', M') => fx_run c X n i' ls' st' M'
      | none => none) else none
theorem Ev.run (n : Nat) (hC : fd_C j = c) (hs : fx_run c X n i ls st M = some (i', ls', st', M1)) (k : Ev X j i' ls' st' M1 r M') : Ev X j i ls st M r M' := by
  induction n generalizing i ls st M with
  | zero => cases hs; exact k
  | succ n ih =>
    unfold fx_run at hs
    split at hs
    next => cases hs
    next mm hi =>
      split at hs
      next hp =>
        split at hs
        next i1 ls1 st1 M2 h1 => exact Ev.one hC hi hp h1 (ih hs)
        next => cases hs
      next => cases hs
theorem Ev.ret {x : Int} (hC : fd_C j = c) (hi : c[i]? = some .ireturn) (h : fx_ret (fd_G j).2.2.1 [.inl x] M = some (some (.inl x), M)) : Ev X j i ls [.inl x] M (some (.inl x)) M := by
  refine ⟨1, ?_⟩
  unfold fx_ex
  rw [hC, hi]
  exact h
theorem Ev.retv (hC : fd_C j = c) (hi : c[i]? = some .return_) (h : (fd_G j).2.2.1 = 0) : Ev X j i ls [] M none M := by
  refine ⟨1, ?_⟩
  unfold fx_ex
  rw [hC, hi]
  simp only
  rw [if_pos h]
theorem Ev.callS {k : Nat} {vs : List fx_V} {r1 : Option fx_V} (hC : fd_C j = c) (hi : c[i]? = some (.invokestatic k)) (hg : (fd_G k).1 = vs.length) (hs : st = vs.reverse ++ rest) (hcs : fx_cs rest ≤ 8) (hfl : (fx_fl vs).length ≤ (fd_G k).2.1)
    (hc : Ev X k 0 (fx_ini (fd_G k).2.1 vs) [] M r1 M1) (kk : Ev X j (i + 1) ls (r1.toList ++ rest) M1 r M') : Ev X j i ls st M r M' := by
  obtain ⟨n1, h1⟩ := hc
  obtain ⟨n2, h2⟩ := kk
  have h1 := fx_ex_le (Nat.le_max_left n1 n2) h1
  have h2 := fx_ex_le (Nat.le_max_right n1 n2) h2
  refine ⟨max n1 n2 + 1, ?_⟩
  subst hs
  unfold fx_ex
  rw [hC, hi]
  have e1 : (vs.reverse ++ rest).drop (fd_G k).1 = rest := by rw [hg, ← List.length_reverse, List.drop_left]
  have e2 : ((vs.reverse ++ rest).take (fd_G k).1).reverse = vs := by rw [hg, ← List.length_reverse, List.take_left, List.reverse_reverse]
  simp only
  rw [e1, e2, if_pos ⟨by simp; omega, hcs, hfl⟩, h1]
  exact h2
theorem Ev.callV {k : Nat} {vs : List fx_V} {r1 : Option fx_V} (hC : fd_C j = c) (hi : c[i]? = some (.invokevirtual k)) (hg : (fd_G k).1 = vs.length) (hs : st = vs.reverse ++ rest) (hcs : fx_cs rest ≤ 8) (hfl : (fx_fl vs).length ≤ (fd_G k).2.1) (hr : fx_rcv fd_SH (fd_G k).2.2.2 vs = true)
    (hc : Ev X k 0 (fx_ini (fd_G k).2.1 vs) [] M r1 M1) (kk : Ev X j (i + 1) ls (r1.toList ++ rest) M1 r M') : Ev X j i ls st M r M' := by
  obtain ⟨n1, h1⟩ := hc
  obtain ⟨n2, h2⟩ := kk
  have h1 := fx_ex_le (Nat.le_max_left n1 n2) h1
  have h2 := fx_ex_le (Nat.le_max_right n1 n2) h2
  refine ⟨max n1 n2 + 1, ?_⟩
  subst hs
  unfold fx_ex
  rw [hC, hi]
  have e1 : (vs.reverse ++ rest).drop (fd_G k).1 = rest := by rw [hg, ← List.length_reverse, List.drop_left]
  have e2 : ((vs.reverse ++ rest).take (fd_G k).1).reverse = vs := by rw [hg, ← List.length_reverse, List.take_left, List.reverse_reverse]
  simp only
  rw [e1, e2, if_pos ⟨by simp; omega, hcs, hfl, hr⟩, h1]
  exact h2
/-! instructions with a guard -/
theorem fx_rb_of {x : Int} (h : -2147483648 ≤ x ∧ x < 2147483648) : fx_rb x = true := fx_rb_iff.mpr h
theorem Ev.ifT {cd : Jvm.ClassFile.Cond} {t : Int} {x : Int} (hC : fd_C j = c) (hi : c[i]? = some (.ifCond cd t)) (g : -2147483648 ≤ x ∧ x < 2147483648) (h : fx_cmp cd x 0 = true) (k : Ev X j t.toNat ls rest M r M') : Ev X j i ls (.inl x :: rest) M r M' :=
  Ev.one hC hi rfl (by simp only [fx_step, fx_rb_of g, h, if_true]) k
theorem Ev.ifF {cd : Jvm.ClassFile.Cond} {t : Int} {x : Int} (hC : fd_C j = c) (hi : c[i]? = some (.ifCond cd t)) (g : -2147483648 ≤ x ∧ x < 2147483648) (h : fx_cmp cd x 0 = false) (k : Ev X j (i + 1) ls rest M r M') : Ev X j i ls (.inl x :: rest) M r M' :=
  Ev.one hC hi rfl (by simp only [fx_step, fx_rb_of g, h, if_true, Bool.false_eq_true, if_false]) k
theorem Ev.icT {cd : Jvm.ClassFile.Cond} {t : Int} {x y : Int} (hC : fd_C j = c) (hi : c[i]? = some (.if_icmp cd t)) (g : -2147483648 ≤ x ∧ x < 2147483648) (g2 : -2147483648 ≤ y ∧ y < 2147483648) (h : fx_cmp cd x y = true) (k : Ev X j t.toNat ls rest M r M') : Ev X j i ls (.inl y :: .inl x :: rest) M r M' :=
  Ev.one hC hi rfl (by simp only [fx_step, fx_rb_of g, fx_rb_of g2, h, and_self, if_true]) k
theorem Ev.icF {cd : Jvm.ClassFile.Cond} {t : Int} {x y : Int} (hC : fd_C j = c) (hi : c[i]? = some (.if_icmp cd t)) (g : -2147483648 ≤ x ∧ x < 2147483648) (g2 : -2147483648 ≤ y ∧ y < 2147483648) (h : fx_cmp cd x y = false) (k : Ev X j (i + 1) ls rest M r M') : Ev X j i ls (.inl y :: .inl x :: rest) M r M' :=
  Ev.one hC hi rfl (by simp only [fx_step, fx_rb_of g, fx_rb_of g2, h, and_self, if_true, Bool.false_eq_true, if_false]) k
theorem Ev.tsO {d lo hi2 : Int} {ts : Array Int} {x : Int} (hC : fd_C j = c) (hi : c[i]? = some (.tableswitch d lo hi2 ts)) (g : -2147483648 ≤ x ∧ x < 2147483648) (h : x < lo ∨ hi2 < x) (k : Ev X j d.toNat ls rest M r M') : Ev X j i ls (.inl x :: rest) M r M' :=
  Ev.one hC hi rfl (by simp only [fx_step, fx_rb_of g, h, if_true]) k
theorem Ev.tsI {d lo hi2 : Int} {ts : Array Int} {x t : Int} (hC : fd_C j = c) (hi : c[i]? = some (.tableswitch d lo hi2 ts)) (g : -2147483648 ≤ x ∧ x < 2147483648) (h : ¬ (x < lo ∨ hi2 < x)) (ht : ts[(x - lo).toNat]? = some t) (k : Ev X j t.toNat ls rest M r M') : Ev X j i ls (.inl x :: rest) M r M' :=
  Ev.one hC hi rfl (by simp only [fx_step, fx_rb_of g, h, ht, if_true, if_false]) k
theorem Ev.lsw {d : Int} {ts : Array (Int × Int)} {x t : Int} (hC : fd_C j = c) (hi : c[i]? = some (.lookupswitch d ts)) (g : -2147483648 ≤ x ∧ x < 2147483648) (h : fx_lk ts.toList d x = t) (k : Ev X j t.toNat ls rest M r M') : Ev X j i ls (.inl x :: rest) M r M' :=
  Ev.one hC hi rfl (by simp only [fx_step, fx_rb_of g, h, if_true]) k
theorem Ev.getr {ci sl a b : Nat} {fs : List (Option Nat)} (hC : fd_C j = c) (hi : c[i]? = some (.invokeinterface ci sl)) (hk : fd_SH[a]? = some (.inr (.inl (ci, fs)))) (hf : fs[sl]? = some (some b)) (k : Ev X j (i + 1) ls (fx_f b :: rest) M r M') : Ev X j i ls (fx_f a :: rest) M r M' :=
  Ev.one hC hi rfl (by simp only [fx_step, hk, hf, if_true]) k
theorem fx_ixb {x : Int} {n : Nat} (hn : n < 2147483648) (g : 0 ≤ x ∧ x < (n : Int)) : fx_ix x n = true := fx_ix_iff.mpr ⟨g.1, g.2, by omega⟩
theorem Ev.iald {a n : Nat} {x : Int} (hC : fd_C j = c) (hi : c[i]? = some .iaload) (hk : fd_SH[a]? = some (.inl (0, n))) (hn : n < 2147483648) (g : 0 ≤ x ∧ x < (n : Int)) (k : Ev X j (i + 1) ls (.inl (M a x.toNat) :: rest) M r M') : Ev X j i ls (.inl x :: fx_f a :: rest) M r M' := by
  have ha : ¬ a = fd_SH.length := by have := (List.getElem?_eq_some_iff.mp hk).1; omega
  exact Ev.one hC hi rfl (by simp only [fx_step, fx_ldx, fx_ld, ha, hk, fx_ixb hn g, if_true, if_false, and_self]) k
theorem Ev.bald {a n : Nat} {x : Int} (hC : fd_C j = c) (hi : c[i]? = some .baload) (hk : fd_SH[a]? = some (.inl (1, n))) (hn : n < 2147483648) (g : 0 ≤ x ∧ x < (n : Int)) (k : Ev X j (i + 1) ls (.inl (M a x.toNat) :: rest) M r M') : Ev X j i ls (.inl x :: fx_f a :: rest) M r M' :=
  Ev.one hC hi rfl (by simp only [fx_step, fx_ld, hk, fx_ixb hn g, if_true, and_self]) k
theorem Ev.cald {a n : Nat} {x : Int} (hC : fd_C j = c) (hi : c[i]? = some .caload) (hk : fd_SH[a]? = some (.inl (2, n))) (hn : n < 2147483648) (g : 0 ≤ x ∧ x < (n : Int)) (k : Ev X j (i + 1) ls (.inl (M a x.toNat) :: rest) M r M') : Ev X j i ls (.inl x :: fx_f a :: rest) M r M' :=
  Ev.one hC hi rfl (by simp only [fx_step, fx_ld, hk, fx_ixb hn g, if_true, and_self]) k
theorem Ev.iast {a n : Nat} {x v : Int} (hC : fd_C j = c) (hi : c[i]? = some .iastore) (hk : fd_SH[a]? = some (.inl (0, n))) (hn : n < 2147483648) (g : 0 ≤ x ∧ x < (n : Int)) (k : Ev X j (i + 1) ls rest (fx_set M a (fx_up (M a) x.toNat v)) r M') : Ev X j i ls (.inl v :: .inl x :: fx_f a :: rest) M r M' :=
  Ev.one hC hi rfl (by simp only [fx_step, fx_sd, fx_tk, hk, fx_ixb hn g, if_true, and_self]) k
theorem Ev.bast {a n : Nat} {x v : Int} (hC : fd_C j = c) (hi : c[i]? = some .bastore) (hk : fd_SH[a]? = some (.inl (1, n))) (hn : n < 2147483648) (g : 0 ≤ x ∧ x < (n : Int)) (hv : v = 0 ∨ v = 1) (k : Ev X j (i + 1) ls rest (fx_set M a (fx_up (M a) x.toNat v)) r M') : Ev X j i ls (.inl v :: .inl x :: fx_f a :: rest) M r M' :=
  Ev.one hC hi rfl (by simp only [fx_step, fx_sd, show fx_tk 1 v = true by rcases hv with rfl | rfl <;> rfl, hk, fx_ixb hn g, if_true, and_self]) k
theorem Ev.cast {a n : Nat} {x v : Int} (hC : fd_C j = c) (hi : c[i]? = some .castore) (hk : fd_SH[a]? = some (.inl (2, n))) (hn : n < 2147483648) (g : 0 ≤ x ∧ x < (n : Int)) (hv : 0 ≤ v ∧ v < 65536) (k : Ev X j (i + 1) ls rest (fx_set M a (fx_up (M a) x.toNat v)) r M') : Ev X j i ls (.inl v :: .inl x :: fx_f a :: rest) M r M' :=
  Ev.one hC hi rfl (by simp only [fx_step, fx_sd, show fx_tk 2 v = true by simp [fx_tk, hv.1, hv.2], hk, fx_ixb hn g, if_true, and_self]) k
theorem Ev.aald {a b : Nat} {l : List Nat} {x : Int} (hC : fd_C j = c) (hi : c[i]? = some .aaload) (hk : fd_SH[a]? = some (.inr (.inr l))) (g : 0 ≤ x ∧ x < (l.length : Int)) (hl : l.length < 2147483648) (hb : l[x.toNat]? = some b) (k : Ev X j (i + 1) ls (fx_f b :: rest) M r M') : Ev X j i ls (.inl x :: fx_f a :: rest) M r M' :=
  Ev.one hC hi rfl (by simp only [fx_step, hk, fx_ixb hl g, hb, if_true]) k
theorem Ev.alen {a n : Nat} (hC : fd_C j = c) (hi : c[i]? = some .arraylength) (hk : fd_SH[a]? = some (.inl (0, n))) (k : Ev X j (i + 1) ls (.inl (n : Int) :: rest) M r M') : Ev X j i ls (fx_f a :: rest) M r M' := by
  have ha : ¬ a = fd_SH.length := by have := (List.getElem?_eq_some_iff.mp hk).1; omega
  exact Ev.one hC hi rfl (by simp only [fx_step, ha, hk, if_false]) k
theorem Ev.xald {x : Int} (hC : fd_C j = c) (hi : c[i]? = some .iaload) (hn : X.1 < 2147483648) (g : 0 ≤ x ∧ x < (X.1 : Int)) (k : Ev X j (i + 1) ls (.inl (X.2 x.toNat) :: rest) M r M') : Ev X j i ls (.inl x :: fx_f 71 :: rest) M r M' :=
  Ev.one hC hi rfl (by simp only [fx_step, fx_ldx, show (71 : Nat) = fd_SH.length from rfl, fx_ixb hn g, if_true]) k
theorem Ev.xlen (hC : fd_C j = c) (hi : c[i]? = some .arraylength) (h0 : 0 < X.1) (k : Ev X j (i + 1) ls (.inl (X.1 : Int) :: rest) M r M') : Ev X j i ls (fx_f 71 :: rest) M r M' :=
  Ev.one hC hi rfl (by simp only [fx_step, show (71 : Nat) = fd_SH.length from rfl, h0, if_true]) k
theorem Ev.div {x y : Int} (hC : fd_C j = c) (hi : c[i]? = some .idiv) (g : ¬ Int32.ofInt y = 0) (k : Ev X j (i + 1) ls (.inl (fx_div x y) :: rest) M r M') : Ev X j i ls (.inl y :: .inl x :: rest) M r M' :=
  Ev.one hC hi rfl (by simp only [fx_step, fx_binN, g, if_false]) k
theorem Ev.rem {x y : Int} (hC : fd_C j = c) (hi : c[i]? = some .irem) (g : ¬ Int32.ofInt y = 0) (k : Ev X j (i + 1) ls (.inl (fx_rem x y) :: rest) M r M') : Ev X j i ls (.inl y :: .inl x :: rest) M r M' :=
  Ev.one hC hi rfl (by simp only [fx_step, fx_binN, g, if_false]) k
theorem Ev.max {x y : Int} (hC : fd_C j = c) (hi : c[i]? = some .swap) (g : -2147483648 ≤ x ∧ x < 2147483648) (g2 : -2147483648 ≤ y ∧ y < 2147483648) (hcs : fx_cs rest ≤ 8) (k : Ev X j (i + 1) ls (.inl (if x < y then y else x) :: rest) M r M') : Ev X j i ls (.inl y :: .inl x :: rest) M r M' :=
  Ev.one hC hi rfl (by simp only [fx_step, fx_rb_of g, fx_rb_of g2, hcs, and_self, if_true]) k
theorem Ev.min {x y : Int} (hC : fd_C j = c) (hi : c[i]? = some .pop2) (g : -2147483648 ≤ x ∧ x < 2147483648) (g2 : -2147483648 ≤ y ∧ y < 2147483648) (hcs : fx_cs rest ≤ 8) (k : Ev X j (i + 1) ls (.inl (if y < x then y else x) :: rest) M r M') : Ev X j i ls (.inl y :: .inl x :: rest) M r M' :=
  Ev.one hC hi rfl (by simp only [fx_step, fx_rb_of g, fx_rb_of g2, hcs, and_self, if_true]) k
theorem Ev.acp {a b n0 n1 : Nat} {n dp sp : Int} (hC : fd_C j = c) (hi : c[i]? = some .nop) (hk : fd_SH[a]? = some (.inl (0, n0))) (hk2 : fd_SH[b]? = some (.inl (0, n1))) (g : 0 ≤ n ∧ 0 ≤ dp ∧ 0 ≤ sp ∧ sp + n ≤ (n0 : Int) ∧ dp + n ≤ (n1 : Int)) (h0 : n0 < 2147483648) (h1 : n1 < 2147483648) (hcs : fx_cs rest ≤ 8)
    (k : Ev X j (i + 1) ls rest (fx_set M b (fx_cp (M a) (M b) sp.toNat dp.toNat n.toNat)) r M') : Ev X j i ls (.inl n :: .inl dp :: fx_f b :: .inl sp :: fx_f a :: rest) M r M' :=
  Ev.one hC hi rfl (by simp only [fx_step, hk, hk2, fx_rb_of (x := n) (by omega), fx_rb_of (x := dp) (by omega), fx_rb_of (x := sp) (by omega), g, hcs, and_self, if_true]) k
end EVR
end

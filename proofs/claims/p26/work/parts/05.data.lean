/-! The program as data: written by gen.py out of the Statement (the bytes, the words) -/
abbrev fd_NW : fx_N := [("FoldedStrips$Strip", 54, ⟨"FoldedStrips", "upperEdge", "(I)I"⟩, "FoldedStrips"), ("FoldedStrips$Strip", 27, ⟨"FoldedStrips", "isPlace", "(I)Z"⟩, "FoldedStrips"), ("FoldedStrips$Strip", 60, ⟨"FoldedStrips", "lowerEdge", "(I)I"⟩, "FoldedStrips"), ("FoldedStrips$Strip", 48, ⟨"FoldedStrips", "isPanel", "(I)Z"⟩, "FoldedStrips"), ("FoldedStrips$Strip", 38, ⟨"FoldedStrips", "placeOf", "(II)I"⟩, "FoldedStrips"), ("FoldedStrips$Strip", 51, ⟨"FoldedStrips", "isEnd", "(I)Z"⟩, "FoldedStrips"), ("FoldedStrips$Strip", 35, ⟨"FoldedStrips", "panelOf", "(I)I"⟩, "FoldedStrips"), ("FoldedStrips$Strip", 45, ⟨"FoldedStrips", "neighbourOf", "(I)I"⟩, "FoldedStrips"), ("FoldedStrips$Lines", 81, ⟨"FoldedStrips", "isPlace", "(I)Z"⟩, "FoldedStrips"), ("FoldedStrips$Lines", 84, ⟨"FoldedStrips", "panelOf", "(I)I"⟩, "FoldedStrips"), ("FoldedStrips$Lines", 61, ⟨"FoldedStrips", "neighbourOf", "(I)I"⟩, "FoldedStrips"), ("FoldedStrips$Slots", 22, ⟨"FoldedStrips", "isSlot", "(I)Z"⟩, "FoldedStrips")]
def fd_TG : List Jvm.Cond := lw_tbl.filter goodWord
def fd_R0 : String := "FoldedStrips"
def fd_T0 : u_T := fun k => match k with
  | 0 => ("FoldedStrips", "strip", "LFoldedStrips$Strip;", true)
  | 1 => ("FoldedStrips", "trial", "LFoldedStrips$Strip;", true)
  | 2 => ("FoldedStrips", "lines", "LFoldedStrips$Lines;", true)
  | 3 => ("FoldedStrips", "pad", "LFoldedStrips$Pad;", true)
  | 4 => ("FoldedStrips", "history", "LFoldedStrips$History;", true)
  | _ => ("FoldedStrips", "slots", "LFoldedStrips$Slots;", true)
def fd_ty0 : Nat → FieldType := fun k => match k with
  | 0 => .object "FoldedStrips$Strip"
  | 1 => .object "FoldedStrips$Strip"
  | 2 => .object "FoldedStrips$Lines"
  | 3 => .object "FoldedStrips$Pad"
  | 4 => .object "FoldedStrips$History"
  | _ => .object "FoldedStrips$Slots"
def fd_R1 : String := "FoldedStrips$History"
def fd_T1 : u_T := fun k => match k with
  | 0 => ("FoldedStrips$History", "states", "[LFoldedStrips$Strip;", true)
  | 1 => ("FoldedStrips$History", "size", "I", false)
  | _ => ("FoldedStrips$History", "next", "I", false)
def fd_ty1 : Nat → FieldType := fun k => match k with
  | 0 => .array (.object "FoldedStrips$Strip")
  | 1 => .int
  | _ => .int
def fd_R2 : String := "FoldedStrips$Lines"
def fd_T2 : u_T := fun k => match k with
  | 0 => ("FoldedStrips$Lines", "size", "I", false)
  | 1 => ("FoldedStrips$Lines", "lineOf", "[I", true)
  | 2 => ("FoldedStrips$Lines", "strokes", "[I", true)
  | 3 => ("FoldedStrips$Lines", "panelSets", "[I", true)
  | 4 => ("FoldedStrips$Lines", "handSets", "[I", true)
  | 5 => ("FoldedStrips$Lines", "lesserEnds", "[I", true)
  | 6 => ("FoldedStrips$Lines", "greaterEnds", "[I", true)
  | _ => ("FoldedStrips$Lines", "looped", "[Z", true)
def fd_ty2 : Nat → FieldType := fun k => match k with
  | 0 => .int
  | 1 => .array .int
  | 2 => .array .int
  | 3 => .array .int
  | 4 => .array .int
  | 5 => .array .int
  | 6 => .array .int
  | _ => .array .boolean
def fd_R3 : String := "FoldedStrips$Pad"
def fd_T3 : u_T := fun k => match k with
  | 0 => ("FoldedStrips$Pad", "text", "[C", true)
  | _ => ("FoldedStrips$Pad", "length", "I", false)
def fd_ty3 : Nat → FieldType := fun k => match k with
  | 0 => .array .char
  | _ => .int
def fd_R4 : String := "FoldedStrips$Slots"
def fd_T4 : u_T := fun k => match k with
  | 0 => ("FoldedStrips$Slots", "kept", "[LFoldedStrips$Strip;", true)
  | _ => ("FoldedStrips$Slots", "used", "[Z", true)
def fd_ty4 : Nat → FieldType := fun k => match k with
  | 0 => .array (.object "FoldedStrips$Strip")
  | _ => .array .boolean
def fd_R5 : String := "FoldedStrips$Strip"
def fd_T5 : u_T := fun k => match k with
  | 0 => ("FoldedStrips$Strip", "others", "[I", true)
  | 1 => ("FoldedStrips$Strip", "hands", "[I", true)
  | _ => ("FoldedStrips$Strip", "before", "[I", true)
def fd_ty5 : Nat → FieldType := fun k => match k with
  | 0 => .array .int
  | 1 => .array .int
  | _ => .array .int
abbrev fd_cl : List vw_C := [(fd_R0, fd_T0, 6), (fd_R1, fd_T1, 3), (fd_R2, fd_T2, 8), (fd_R3, fd_T3, 2), (fd_R4, fd_T4, 2), (fd_R5, fd_T5, 3)]
-- 0: none
noncomputable abbrev fd_c0 : List Instr := []
noncomputable abbrev fd_o0 : List (Instr × Nat) := []
abbrev fd_p0 : List Nat := []
-- 1: FoldedStrips.isPanel(I)Z
noncomputable abbrev fd_c1 : List Instr := [.iload 0, .ifCond .lt 7, .iload 0, .sipush 6, .if_icmp .ge 7, .sipush 1, .goto 8, .sipush 0, .ireturn]
noncomputable abbrev fd_o1 : List (Instr × Nat) := [(.iload_n 0, 1), (.ifCond .lt 13, 3), (.iload_n 0, 1), (.bipush 6, 2), (.if_icmp .ge 7, 3), (.iconst 1, 1), (.goto 4, 3), (.iconst 0, 1), (.ireturn, 1)]
abbrev fd_p1 : List Nat := [0, 1, 4, 5, 7, 10, 11, 14, 15, 16]
-- 2: FoldedStrips.isHand(I)Z
noncomputable abbrev fd_c2 : List Instr := [.iload 0, .ifCond .lt 7, .iload 0, .sipush 6, .if_icmp .ge 7, .sipush 1, .goto 8, .sipush 0, .ireturn]
noncomputable abbrev fd_o2 : List (Instr × Nat) := [(.iload_n 0, 1), (.ifCond .lt 13, 3), (.iload_n 0, 1), (.bipush 6, 2), (.if_icmp .ge 7, 3), (.iconst 1, 1), (.goto 4, 3), (.iconst 0, 1), (.ireturn, 1)]
abbrev fd_p2 : List Nat := [0, 1, 4, 5, 7, 10, 11, 14, 15, 16]
-- 3: FoldedStrips.placeOf(II)I
noncomputable abbrev fd_c3 : List Instr := [.iload 0, .sipush 24, .imul, .iload 1, .iadd, .ireturn]
noncomputable abbrev fd_o3 : List (Instr × Nat) := [(.iload_n 0, 1), (.bipush 24, 2), (.imul, 1), (.iload_n 1, 1), (.iadd, 1), (.ireturn, 1)]
abbrev fd_p3 : List Nat := [0, 1, 3, 4, 5, 6, 7]
-- 4: FoldedStrips.isEnd(I)Z
noncomputable abbrev fd_c4 : List Instr := [.iload 0, .ifCond .lt 7, .iload 0, .sipush 24, .if_icmp .ge 7, .sipush 1, .goto 8, .sipush 0, .ireturn]
noncomputable abbrev fd_o4 : List (Instr × Nat) := [(.iload_n 0, 1), (.ifCond .lt 13, 3), (.iload_n 0, 1), (.bipush 24, 2), (.if_icmp .ge 7, 3), (.iconst 1, 1), (.goto 4, 3), (.iconst 0, 1), (.ireturn, 1)]
abbrev fd_p4 : List Nat := [0, 1, 4, 5, 7, 10, 11, 14, 15, 16]
-- 5: FoldedStrips.upperEdge(I)I
noncomputable abbrev fd_c5 : List Instr := [.sipush 2, .iload 0, .imul, .ireturn]
noncomputable abbrev fd_o5 : List (Instr × Nat) := [(.iconst 2, 1), (.iload_n 0, 1), (.imul, 1), (.ireturn, 1)]
abbrev fd_p5 : List Nat := [0, 1, 2, 3, 4]
-- 6: FoldedStrips.isPlace(I)Z
noncomputable abbrev fd_c6 : List Instr := [.iload 0, .ifCond .lt 7, .iload 0, .sipush 144, .if_icmp .ge 7, .sipush 1, .goto 8, .sipush 0, .ireturn]
noncomputable abbrev fd_o6 : List (Instr × Nat) := [(.iload_n 0, 1), (.ifCond .lt 14, 3), (.iload_n 0, 1), (.sipush 144, 3), (.if_icmp .ge 7, 3), (.iconst 1, 1), (.goto 4, 3), (.iconst 0, 1), (.ireturn, 1)]
abbrev fd_p6 : List Nat := [0, 1, 4, 5, 8, 11, 12, 15, 16, 17]
-- 7: FoldedStrips.lowerEdge(I)I
noncomputable abbrev fd_c7 : List Instr := [.sipush 2, .iload 0, .imul, .sipush 1, .iadd, .ireturn]
noncomputable abbrev fd_o7 : List (Instr × Nat) := [(.iconst 2, 1), (.iload_n 0, 1), (.imul, 1), (.iconst 1, 1), (.iadd, 1), (.ireturn, 1)]
abbrev fd_p7 : List Nat := [0, 1, 2, 3, 4, 5, 6]
-- 8: FoldedStrips.join(III)I
noncomputable abbrev fd_c8 : List Instr := [.iload 1, .invokestatic 1, .ifCond .eq 9, .iload 2, .invokestatic 4, .ifCond .eq 9, .iload 3, .invokestatic 4, .ifCond .ne 11, .sipush (-1), .ireturn, .iload 2, .iload 3, .if_icmp .ne 16, .sipush (-2), .ireturn, .aload 0, .invokeinterface 0 0, .iload 1, .iload 2, .invokestatic 3, .invokevirtual 83, .ifCond .ne 30, .aload 0, .invokeinterface 0 0, .iload 1, .iload 3, .invokestatic 3, .invokevirtual 83, .ifCond .eq 32, .sipush (-5), .ireturn, .aload 0, .invokeinterface 0 4, .aload 0, .invokeinterface 0 0, .invokevirtual 38, .aload 0, .invokeinterface 0 0, .iload 1, .iload 2, .iload 3, .invokevirtual 80, .aload 0, .invokeinterface 0 0, .iload 1, .invokevirtual 81, .ireturn]
noncomputable abbrev fd_o8 : List (Instr × Nat) := [(.iload_n 1, 1), (.invokestatic 47, 3), (.ifCond .eq 17, 3), (.iload_n 2, 1), (.invokestatic 81, 3), (.ifCond .eq 10, 3), (.iload_n 3, 1), (.invokestatic 81, 3), (.ifCond .ne 5, 3), (.iconst (-1), 1), (.ireturn, 1), (.iload_n 2, 1), (.iload_n 3, 1), (.if_icmp .ne 6, 3), (.bipush (-2), 2), (.ireturn, 1), (.aload_n 0, 1), (.getfield 12, 3), (.iload_n 1, 1), (.iload_n 2, 1), (.invokestatic 84, 3), (.invokevirtual 88, 3), (.ifCond .ne 18, 3), (.aload_n 0, 1), (.getfield 12, 3), (.iload_n 1, 1), (.iload_n 3, 1), (.invokestatic 84, 3), (.invokevirtual 88, 3), (.ifCond .eq 6, 3), (.bipush (-5), 2), (.ireturn, 1), (.aload_n 0, 1), (.getfield 36, 3), (.aload_n 0, 1), (.getfield 12, 3), (.invokevirtual 58, 3), (.aload_n 0, 1), (.getfield 12, 3), (.iload_n 1, 1), (.iload_n 2, 1), (.iload_n 3, 1), (.invokevirtual 91, 3), (.aload_n 0, 1), (.getfield 12, 3), (.iload_n 1, 1), (.invokevirtual 77, 3), (.ireturn, 1)]
abbrev fd_p8 : List Nat := [0, 1, 4, 7, 8, 11, 14, 15, 18, 21, 22, 23, 24, 25, 28, 30, 31, 32, 35, 36, 37, 40, 43, 46, 47, 50, 51, 52, 55, 58, 61, 63, 64, 65, 68, 69, 72, 75, 76, 79, 80, 81, 82, 85, 86, 89, 90, 93, 94]
-- 9: FoldedStrips.rub(II)I
noncomputable abbrev fd_c9 : List Instr := [.iload 1, .invokestatic 1, .ifCond .eq 6, .iload 2, .invokestatic 4, .ifCond .ne 8, .sipush (-1), .ireturn, .aload 0, .invokeinterface 0 0, .iload 1, .iload 2, .invokestatic 3, .invokevirtual 84, .istore 3, .iload 3, .sipush (-1), .if_icmp .ne 20, .sipush (-5), .ireturn, .aload 0, .invokeinterface 0 4, .aload 0, .invokeinterface 0 0, .invokevirtual 38, .aload 0, .invokeinterface 0 0, .iload 1, .iload 2, .iload 3, .invokevirtual 85, .iload 3, .ireturn]
noncomputable abbrev fd_o9 : List (Instr × Nat) := [(.iload_n 1, 1), (.invokestatic 47, 3), (.ifCond .eq 10, 3), (.iload_n 2, 1), (.invokestatic 81, 3), (.ifCond .ne 5, 3), (.iconst (-1), 1), (.ireturn, 1), (.aload_n 0, 1), (.getfield 12, 3), (.iload_n 1, 1), (.iload_n 2, 1), (.invokestatic 84, 3), (.invokevirtual 95, 3), (.istore_n 3, 1), (.iload_n 3, 1), (.iconst (-1), 1), (.if_icmp .ne 6, 3), (.bipush (-5), 2), (.ireturn, 1), (.aload_n 0, 1), (.getfield 36, 3), (.aload_n 0, 1), (.getfield 12, 3), (.invokevirtual 58, 3), (.aload_n 0, 1), (.getfield 12, 3), (.iload_n 1, 1), (.iload_n 2, 1), (.iload_n 3, 1), (.invokevirtual 98, 3), (.iload_n 3, 1), (.ireturn, 1)]
abbrev fd_p9 : List Nat := [0, 1, 4, 7, 8, 11, 14, 15, 16, 17, 20, 21, 22, 25, 28, 29, 30, 31, 34, 36, 37, 38, 41, 42, 45, 48, 49, 52, 53, 54, 55, 58, 59, 60]
-- 10: FoldedStrips.clear(I)I
noncomputable abbrev fd_c10 : List Instr := [.iload 1, .invokestatic 1, .ifCond .ne 5, .sipush (-1), .ireturn, .aload 0, .invokeinterface 0 0, .iload 1, .invokevirtual 81, .istore 2, .aload 0, .invokeinterface 0 4, .aload 0, .invokeinterface 0 0, .invokevirtual 38, .aload 0, .invokeinterface 0 0, .iload 1, .invokevirtual 78, .iload 2, .ireturn]
noncomputable abbrev fd_o10 : List (Instr × Nat) := [(.iload_n 1, 1), (.invokestatic 47, 3), (.ifCond .ne 5, 3), (.iconst (-1), 1), (.ireturn, 1), (.aload_n 0, 1), (.getfield 12, 3), (.iload_n 1, 1), (.invokevirtual 77, 3), (.istore_n 2, 1), (.aload_n 0, 1), (.getfield 36, 3), (.aload_n 0, 1), (.getfield 12, 3), (.invokevirtual 58, 3), (.aload_n 0, 1), (.getfield 12, 3), (.iload_n 1, 1), (.invokevirtual 62, 3), (.iload_n 2, 1), (.ireturn, 1)]
abbrev fd_p10 : List Nat := [0, 1, 4, 7, 8, 9, 10, 13, 14, 17, 18, 19, 22, 23, 26, 29, 30, 33, 34, 37, 38, 39]
-- 11: FoldedStrips.slide(II)I
noncomputable abbrev fd_c11 : List Instr := [.iload 1, .invokestatic 1, .ifCond .ne 5, .sipush (-1), .ireturn, .iload 2, .sipush (-12), .if_icmp .le 13, .iload 2, .sipush 12, .if_icmp .ge 13, .iload 2, .ifCond .ne 15, .sipush (-2), .ireturn, .aload 0, .invokeinterface 0 0, .iload 1, .iload 2, .invokevirtual 86, .ifCond .ne 23, .sipush (-5), .ireturn, .aload 0, .invokeinterface 0 4, .aload 0, .invokeinterface 0 0, .invokevirtual 38, .aload 0, .invokeinterface 0 0, .iload 1, .iload 2, .invokevirtual 87, .aload 0, .invokeinterface 0 0, .invokevirtual 89, .ireturn]
noncomputable abbrev fd_o11 : List (Instr × Nat) := [(.iload_n 1, 1), (.invokestatic 47, 3), (.ifCond .ne 5, 3), (.iconst (-1), 1), (.ireturn, 1), (.iload_n 2, 1), (.bipush (-12), 2), (.if_icmp .le 13, 3), (.iload_n 2, 1), (.bipush 12, 2), (.if_icmp .ge 7, 3), (.iload_n 2, 1), (.ifCond .ne 6, 3), (.bipush (-2), 2), (.ireturn, 1), (.aload_n 0, 1), (.getfield 12, 3), (.iload_n 1, 1), (.iload_n 2, 1), (.invokevirtual 101, 3), (.ifCond .ne 6, 3), (.bipush (-5), 2), (.ireturn, 1), (.aload_n 0, 1), (.getfield 36, 3), (.aload_n 0, 1), (.getfield 12, 3), (.invokevirtual 58, 3), (.aload_n 0, 1), (.getfield 12, 3), (.iload_n 1, 1), (.iload_n 2, 1), (.invokevirtual 105, 3), (.aload_n 0, 1), (.getfield 12, 3), (.invokevirtual 108, 3), (.ireturn, 1)]
abbrev fd_p11 : List Nat := [0, 1, 4, 7, 8, 9, 10, 12, 15, 16, 18, 21, 22, 25, 27, 28, 29, 32, 33, 34, 37, 40, 42, 43, 44, 47, 48, 51, 54, 55, 58, 59, 60, 63, 64, 67, 70, 71]
-- 12: FoldedStrips.turn(II)I
noncomputable abbrev fd_c12 : List Instr := [.iload 1, .invokestatic 1, .ifCond .ne 5, .sipush (-1), .ireturn, .iload 2, .invokestatic 13, .ifCond .ne 10, .sipush (-2), .ireturn, .aload 0, .invokeinterface 0 4, .aload 0, .invokeinterface 0 0, .invokevirtual 38, .aload 0, .invokeinterface 0 0, .iload 1, .iload 2, .invokevirtual 92, .aload 0, .invokeinterface 0 0, .invokevirtual 89, .ireturn]
noncomputable abbrev fd_o12 : List (Instr × Nat) := [(.iload_n 1, 1), (.invokestatic 47, 3), (.ifCond .ne 5, 3), (.iconst (-1), 1), (.ireturn, 1), (.iload_n 2, 1), (.invokestatic 111, 3), (.ifCond .ne 6, 3), (.bipush (-2), 2), (.ireturn, 1), (.aload_n 0, 1), (.getfield 36, 3), (.aload_n 0, 1), (.getfield 12, 3), (.invokevirtual 58, 3), (.aload_n 0, 1), (.getfield 12, 3), (.iload_n 1, 1), (.iload_n 2, 1), (.invokevirtual 114, 3), (.aload_n 0, 1), (.getfield 12, 3), (.invokevirtual 108, 3), (.ireturn, 1)]
abbrev fd_p12 : List Nat := [0, 1, 4, 7, 8, 9, 10, 13, 16, 18, 19, 20, 23, 24, 27, 30, 31, 34, 35, 36, 39, 40, 43, 46, 47]
-- 13: FoldedStrips.isTurn(I)Z
noncomputable abbrev fd_c13 : List Instr := [.iload 0, .ifCond .eq 8, .iload 0, .sipush 1, .if_icmp .eq 8, .iload 0, .sipush 2, .if_icmp .ne 10, .sipush 1, .goto 11, .sipush 0, .ireturn]
noncomputable abbrev fd_o13 : List (Instr × Nat) := [(.iload_n 0, 1), (.ifCond .eq 13, 3), (.iload_n 0, 1), (.iconst 1, 1), (.if_icmp .eq 8, 3), (.iload_n 0, 1), (.iconst 2, 1), (.if_icmp .ne 7, 3), (.iconst 1, 1), (.goto 4, 3), (.iconst 0, 1), (.ireturn, 1)]
abbrev fd_p13 : List Nat := [0, 1, 4, 5, 6, 9, 10, 11, 14, 15, 18, 19, 20]
-- 14: FoldedStrips.exchange(II)I
noncomputable abbrev fd_c14 : List Instr := [.iload 1, .invokestatic 1, .ifCond .eq 6, .iload 2, .invokestatic 1, .ifCond .ne 8, .sipush (-1), .ireturn, .iload 1, .iload 2, .if_icmp .ne 13, .sipush (-5), .ireturn, .aload 0, .invokeinterface 0 4, .aload 0, .invokeinterface 0 0, .invokevirtual 38, .aload 0, .invokeinterface 0 0, .iload 1, .iload 2, .invokevirtual 94, .aload 0, .invokeinterface 0 0, .invokevirtual 89, .ireturn]
noncomputable abbrev fd_o14 : List (Instr × Nat) := [(.iload_n 1, 1), (.invokestatic 47, 3), (.ifCond .eq 10, 3), (.iload_n 2, 1), (.invokestatic 47, 3), (.ifCond .ne 5, 3), (.iconst (-1), 1), (.ireturn, 1), (.iload_n 1, 1), (.iload_n 2, 1), (.if_icmp .ne 6, 3), (.bipush (-5), 2), (.ireturn, 1), (.aload_n 0, 1), (.getfield 36, 3), (.aload_n 0, 1), (.getfield 12, 3), (.invokevirtual 58, 3), (.aload_n 0, 1), (.getfield 12, 3), (.iload_n 1, 1), (.iload_n 2, 1), (.invokevirtual 117, 3), (.aload_n 0, 1), (.getfield 12, 3), (.invokevirtual 108, 3), (.ireturn, 1)]
abbrev fd_p14 : List Nat := [0, 1, 4, 7, 8, 11, 14, 15, 16, 17, 18, 21, 23, 24, 25, 28, 29, 32, 35, 36, 39, 40, 41, 44, 45, 48, 51, 52]
-- 15: FoldedStrips.takeUp(I)I
noncomputable abbrev fd_c15 : List Instr := [.iload 1, .invokestatic 1, .ifCond .eq 5, .iload 1, .ifCond .ne 7, .sipush (-1), .ireturn, .aload 0, .invokeinterface 0 4, .aload 0, .invokeinterface 0 0, .invokevirtual 38, .aload 0, .invokeinterface 0 0, .iload 1, .invokevirtual 95, .ireturn]
noncomputable abbrev fd_o15 : List (Instr × Nat) := [(.iload_n 1, 1), (.invokestatic 47, 3), (.ifCond .eq 7, 3), (.iload_n 1, 1), (.ifCond .ne 5, 3), (.iconst (-1), 1), (.ireturn, 1), (.aload_n 0, 1), (.getfield 36, 3), (.aload_n 0, 1), (.getfield 12, 3), (.invokevirtual 58, 3), (.aload_n 0, 1), (.getfield 12, 3), (.iload_n 1, 1), (.invokevirtual 120, 3), (.ireturn, 1)]
abbrev fd_p15 : List Nat := [0, 1, 4, 7, 8, 11, 12, 13, 14, 17, 18, 21, 24, 25, 28, 29, 32, 33]
-- 16: FoldedStrips.end(III)I
noncomputable abbrev fd_c16 : List Instr := [.iload 1, .invokestatic 1, .ifCond .eq 6, .iload 2, .invokestatic 4, .ifCond .ne 8, .sipush (-1), .ireturn, .iload 3, .ifCond .lt 13, .iload 3, .sipush 3, .if_icmp .le 15, .sipush (-2), .ireturn, .iload 1, .iload 2, .invokestatic 3, .istore 4, .iload 3, .sipush 1, .if_icmp .ne 27, .aload 0, .invokeinterface 0 0, .iload 4, .invokevirtual 97, .ireturn, .aload 0, .invokeinterface 0 0, .iload 4, .invokevirtual 83, .ifCond .ne 34, .sipush (-6), .ireturn, .iload 3, .lookupswitch 51 #[(0, 36), (2, 41)], .aload 0, .invokeinterface 0 0, .iload 4, .invokevirtual 84, .ireturn, .aload 0, .invokeinterface 0 2, .aload 0, .invokeinterface 0 0, .invokevirtual 41, .aload 0, .invokeinterface 0 2, .iload 4, .invokevirtual 46, .ireturn, .aload 0, .invokeinterface 0 0, .iload 4, .invokevirtual 100, .ireturn]
noncomputable abbrev fd_o16 : List (Instr × Nat) := [(.iload_n 1, 1), (.invokestatic 47, 3), (.ifCond .eq 10, 3), (.iload_n 2, 1), (.invokestatic 81, 3), (.ifCond .ne 5, 3), (.iconst (-1), 1), (.ireturn, 1), (.iload_n 3, 1), (.ifCond .lt 8, 3), (.iload_n 3, 1), (.iconst 3, 1), (.if_icmp .le 6, 3), (.bipush (-2), 2), (.ireturn, 1), (.iload_n 1, 1), (.iload_n 2, 1), (.invokestatic 84, 3), (.istore 4, 2), (.iload_n 3, 1), (.iconst 1, 1), (.if_icmp .ne 13, 3), (.aload_n 0, 1), (.getfield 12, 3), (.iload 4, 2), (.invokevirtual 123, 3), (.ireturn, 1), (.aload_n 0, 1), (.getfield 12, 3), (.iload 4, 2), (.invokevirtual 88, 3), (.ifCond .ne 6, 3), (.bipush (-6), 2), (.ireturn, 1), (.iload_n 3, 1), (.lookupswitch 57 #[(0, 26), (2, 36)], 26), (.aload_n 0, 1), (.getfield 12, 3), (.iload 4, 2), (.invokevirtual 95, 3), (.ireturn, 1), (.aload_n 0, 1), (.getfield 22, 3), (.aload_n 0, 1), (.getfield 12, 3), (.invokevirtual 126, 3), (.aload_n 0, 1), (.getfield 22, 3), (.iload 4, 2), (.invokevirtual 129, 3), (.ireturn, 1), (.aload_n 0, 1), (.getfield 12, 3), (.iload 4, 2), (.invokevirtual 132, 3), (.ireturn, 1)]
abbrev fd_p16 : List Nat := [0, 1, 4, 7, 8, 11, 14, 15, 16, 17, 20, 21, 22, 25, 27, 28, 29, 30, 33, 35, 36, 37, 40, 41, 44, 46, 49, 50, 51, 54, 56, 59, 62, 64, 65, 66, 92, 93, 96, 98, 101, 102, 103, 106, 107, 110, 113, 114, 117, 119, 122, 123, 124, 127, 129, 132, 133]
-- 17: FoldedStrips.neighbourOf(I)I
noncomputable abbrev fd_c17 : List Instr := [.iload 0, .invokestatic 6, .ifCond .ne 5, .sipush (-1), .ireturn, .iload 0, .sipush 24, .irem, .sipush 12, .if_icmp .ge 12, .sipush 1, .goto 13, .sipush 0, .istore 1, .iload 1, .ifCond .eq 20, .iload 0, .sipush 12, .isub, .goto 23, .iload 0, .sipush 12, .iadd, .istore 2, .iload 2, .invokestatic 6, .ifCond .eq 29, .iload 2, .goto 30, .sipush (-1), .ireturn]
noncomputable abbrev fd_o17 : List (Instr × Nat) := [(.iload_n 0, 1), (.invokestatic 263, 3), (.ifCond .ne 5, 3), (.iconst (-1), 1), (.ireturn, 1), (.iload_n 0, 1), (.bipush 24, 2), (.irem, 1), (.bipush 12, 2), (.if_icmp .ge 7, 3), (.iconst 1, 1), (.goto 4, 3), (.iconst 0, 1), (.istore_n 1, 1), (.iload_n 1, 1), (.ifCond .eq 10, 3), (.iload_n 0, 1), (.bipush 12, 2), (.isub, 1), (.goto 7, 3), (.iload_n 0, 1), (.bipush 12, 2), (.iadd, 1), (.istore_n 2, 1), (.iload_n 2, 1), (.invokestatic 263, 3), (.ifCond .eq 7, 3), (.iload_n 2, 1), (.goto 4, 3), (.iconst (-1), 1), (.ireturn, 1)]
abbrev fd_p17 : List Nat := [0, 1, 4, 7, 8, 9, 10, 12, 13, 15, 18, 19, 22, 23, 24, 25, 28, 29, 31, 32, 35, 36, 38, 39, 40, 41, 44, 47, 48, 51, 52, 53]
-- 18: FoldedStrips.panelOf(I)I
noncomputable abbrev fd_c18 : List Instr := [.iload 0, .sipush 24, .idiv, .ireturn]
noncomputable abbrev fd_o18 : List (Instr × Nat) := [(.iload_n 0, 1), (.bipush 24, 2), (.idiv, 1), (.ireturn, 1)]
abbrev fd_p18 : List Nat := [0, 1, 3, 4, 5]
-- 19: FoldedStrips.panel(II)I
noncomputable abbrev fd_c19 : List Instr := [.iload 1, .invokestatic 1, .ifCond .ne 5, .sipush (-1), .ireturn, .iload 2, .tableswitch 54 0 7 #[7, 12, 17, 23, 29, 34, 39, 49], .aload 0, .invokeinterface 0 0, .iload 1, .invokevirtual 81, .ireturn, .aload 0, .invokeinterface 0 0, .iload 1, .invokevirtual 99, .ireturn, .aload 0, .invokeinterface 0 0, .iload 1, .invokestatic 5, .invokevirtual 82, .ireturn, .aload 0, .invokeinterface 0 0, .iload 1, .invokestatic 7, .invokevirtual 82, .ireturn, .aload 0, .invokeinterface 0 0, .iload 1, .invokevirtual 103, .ireturn, .aload 0, .invokeinterface 0 0, .iload 1, .invokevirtual 104, .ireturn, .aload 0, .invokeinterface 0 2, .aload 0, .invokeinterface 0 0, .invokevirtual 41, .aload 0, .invokeinterface 0 2, .iload 1, .invokevirtual 47, .ireturn, .aload 0, .invokeinterface 0 0, .iload 1, .invokevirtual 105, .ireturn, .sipush (-2), .ireturn]
noncomputable abbrev fd_o19 : List (Instr × Nat) := [(.iload_n 1, 1), (.invokestatic 47, 3), (.ifCond .ne 5, 3), (.iconst (-1), 1), (.ireturn, 1), (.iload_n 2, 1), (.tableswitch 135 0 7 #[46, 55, 64, 76, 88, 97, 106, 126], 46), (.aload_n 0, 1), (.getfield 12, 3), (.iload_n 1, 1), (.invokevirtual 77, 3), (.ireturn, 1), (.aload_n 0, 1), (.getfield 12, 3), (.iload_n 1, 1), (.invokevirtual 135, 3), (.ireturn, 1), (.aload_n 0, 1), (.getfield 12, 3), (.iload_n 1, 1), (.invokestatic 138, 3), (.invokevirtual 141, 3), (.ireturn, 1), (.aload_n 0, 1), (.getfield 12, 3), (.iload_n 1, 1), (.invokestatic 144, 3), (.invokevirtual 141, 3), (.ireturn, 1), (.aload_n 0, 1), (.getfield 12, 3), (.iload_n 1, 1), (.invokevirtual 147, 3), (.ireturn, 1), (.aload_n 0, 1), (.getfield 12, 3), (.iload_n 1, 1), (.invokevirtual 150, 3), (.ireturn, 1), (.aload_n 0, 1), (.getfield 22, 3), (.aload_n 0, 1), (.getfield 12, 3), (.invokevirtual 126, 3), (.aload_n 0, 1), (.getfield 22, 3), (.iload_n 1, 1), (.invokevirtual 153, 3), (.ireturn, 1), (.aload_n 0, 1), (.getfield 12, 3), (.iload_n 1, 1), (.invokevirtual 156, 3), (.ireturn, 1), (.bipush (-2), 2), (.ireturn, 1)]
abbrev fd_p19 : List Nat := [0, 1, 4, 7, 8, 9, 10, 56, 57, 60, 61, 64, 65, 66, 69, 70, 73, 74, 75, 78, 79, 82, 85, 86, 87, 90, 91, 94, 97, 98, 99, 102, 103, 106, 107, 108, 111, 112, 115, 116, 117, 120, 121, 124, 127, 128, 131, 132, 135, 136, 137, 140, 141, 144, 145, 147, 148]
-- 20: FoldedStrips.fold(II)I
noncomputable abbrev fd_c20 : List Instr := [.iload 1, .invokestatic 21, .ifCond .ne 5, .sipush (-1), .ireturn, .iload 2, .tableswitch 32 0 3 #[7, 12, 22, 27], .aload 0, .invokeinterface 0 0, .iload 1, .invokevirtual 90, .ireturn, .aload 0, .invokeinterface 0 0, .iload 1, .invokevirtual 90, .aload 0, .invokeinterface 0 0, .iload 1, .invokevirtual 91, .iand, .ireturn, .aload 0, .invokeinterface 0 0, .iload 1, .invokevirtual 96, .ireturn, .aload 0, .invokeinterface 0 0, .iload 1, .invokevirtual 106, .ireturn, .sipush (-2), .ireturn]
noncomputable abbrev fd_o20 : List (Instr × Nat) := [(.iload_n 1, 1), (.invokestatic 159, 3), (.ifCond .ne 5, 3), (.iconst (-1), 1), (.ireturn, 1), (.iload_n 2, 1), (.tableswitch 75 0 3 #[30, 39, 57, 66], 30), (.aload_n 0, 1), (.getfield 12, 3), (.iload_n 1, 1), (.invokevirtual 162, 3), (.ireturn, 1), (.aload_n 0, 1), (.getfield 12, 3), (.iload_n 1, 1), (.invokevirtual 162, 3), (.aload_n 0, 1), (.getfield 12, 3), (.iload_n 1, 1), (.invokevirtual 165, 3), (.iand, 1), (.ireturn, 1), (.aload_n 0, 1), (.getfield 12, 3), (.iload_n 1, 1), (.invokevirtual 168, 3), (.ireturn, 1), (.aload_n 0, 1), (.getfield 12, 3), (.iload_n 1, 1), (.invokevirtual 171, 3), (.ireturn, 1), (.bipush (-2), 2), (.ireturn, 1)]
abbrev fd_p20 : List Nat := [0, 1, 4, 7, 8, 9, 10, 40, 41, 44, 45, 48, 49, 50, 53, 54, 57, 58, 61, 62, 65, 66, 67, 68, 71, 72, 75, 76, 77, 80, 81, 84, 85, 87, 88]
-- 21: FoldedStrips.isFold(I)Z
noncomputable abbrev fd_c21 : List Instr := [.iload 0, .ifCond .lt 7, .iload 0, .sipush 5, .if_icmp .ge 7, .sipush 1, .goto 8, .sipush 0, .ireturn]
noncomputable abbrev fd_o21 : List (Instr × Nat) := [(.iload_n 0, 1), (.ifCond .lt 12, 3), (.iload_n 0, 1), (.iconst 5, 1), (.if_icmp .ge 7, 3), (.iconst 1, 1), (.goto 4, 3), (.iconst 0, 1), (.ireturn, 1)]
abbrev fd_p21 : List Nat := [0, 1, 4, 5, 6, 9, 10, 13, 14, 15]
-- 22: FoldedStrips.hand(II)I
noncomputable abbrev fd_c22 : List Instr := [.iload 1, .invokestatic 2, .ifCond .ne 5, .sipush (-1), .ireturn, .iload 2, .tableswitch 32 0 3 #[7, 12, 17, 27], .aload 0, .invokeinterface 0 0, .iload 1, .invokevirtual 107, .ireturn, .aload 0, .invokeinterface 0 0, .iload 1, .invokevirtual 108, .ireturn, .aload 0, .invokeinterface 0 0, .iload 1, .invokevirtual 109, .aload 0, .invokeinterface 0 0, .iload 1, .invokevirtual 110, .iadd, .ireturn, .aload 0, .invokeinterface 0 0, .iload 1, .invokevirtual 110, .ireturn, .sipush (-2), .ireturn]
noncomputable abbrev fd_o22 : List (Instr × Nat) := [(.iload_n 1, 1), (.invokestatic 51, 3), (.ifCond .ne 5, 3), (.iconst (-1), 1), (.ireturn, 1), (.iload_n 2, 1), (.tableswitch 75 0 3 #[30, 39, 48, 66], 30), (.aload_n 0, 1), (.getfield 12, 3), (.iload_n 1, 1), (.invokevirtual 174, 3), (.ireturn, 1), (.aload_n 0, 1), (.getfield 12, 3), (.iload_n 1, 1), (.invokevirtual 177, 3), (.ireturn, 1), (.aload_n 0, 1), (.getfield 12, 3), (.iload_n 1, 1), (.invokevirtual 180, 3), (.aload_n 0, 1), (.getfield 12, 3), (.iload_n 1, 1), (.invokevirtual 183, 3), (.iadd, 1), (.ireturn, 1), (.aload_n 0, 1), (.getfield 12, 3), (.iload_n 1, 1), (.invokevirtual 183, 3), (.ireturn, 1), (.bipush (-2), 2), (.ireturn, 1)]
abbrev fd_p22 : List Nat := [0, 1, 4, 7, 8, 9, 10, 40, 41, 44, 45, 48, 49, 50, 53, 54, 57, 58, 59, 62, 63, 66, 67, 70, 71, 74, 75, 76, 77, 80, 81, 84, 85, 87, 88]
-- 23: FoldedStrips.line(II)I
noncomputable abbrev fd_c23 : List Instr := [.aload 0, .invokeinterface 0 2, .aload 0, .invokeinterface 0 0, .invokevirtual 41, .iload 1, .ifCond .lt 12, .iload 1, .aload 0, .invokeinterface 0 2, .invokevirtual 49, .if_icmp .lt 14, .sipush (-1), .ireturn, .iload 2, .tableswitch 50 0 5 #[16, 21, 30, 35, 40, 45], .aload 0, .invokeinterface 0 2, .iload 1, .invokevirtual 50, .ireturn, .aload 0, .invokeinterface 0 2, .iload 1, .invokevirtual 51, .ifCond .eq 28, .sipush 1, .goto 29, .sipush 0, .ireturn, .aload 0, .invokeinterface 0 2, .iload 1, .invokevirtual 48, .ireturn, .aload 0, .invokeinterface 0 2, .iload 1, .invokevirtual 52, .ireturn, .aload 0, .invokeinterface 0 2, .iload 1, .invokevirtual 53, .ireturn, .aload 0, .invokeinterface 0 2, .iload 1, .invokevirtual 54, .ireturn, .sipush (-2), .ireturn]
noncomputable abbrev fd_o23 : List (Instr × Nat) := [(.aload_n 0, 1), (.getfield 22, 3), (.aload_n 0, 1), (.getfield 12, 3), (.invokevirtual 126, 3), (.iload_n 1, 1), (.ifCond .lt 14, 3), (.iload_n 1, 1), (.aload_n 0, 1), (.getfield 22, 3), (.invokevirtual 186, 3), (.if_icmp .lt 5, 3), (.iconst (-1), 1), (.ireturn, 1), (.iload_n 2, 1), (.tableswitch 101 0 5 #[39, 48, 65, 74, 83, 92], 39), (.aload_n 0, 1), (.getfield 22, 3), (.iload_n 1, 1), (.invokevirtual 189, 3), (.ireturn, 1), (.aload_n 0, 1), (.getfield 22, 3), (.iload_n 1, 1), (.invokevirtual 190, 3), (.ifCond .eq 7, 3), (.iconst 1, 1), (.goto 4, 3), (.iconst 0, 1), (.ireturn, 1), (.aload_n 0, 1), (.getfield 22, 3), (.iload_n 1, 1), (.invokevirtual 193, 3), (.ireturn, 1), (.aload_n 0, 1), (.getfield 22, 3), (.iload_n 1, 1), (.invokevirtual 196, 3), (.ireturn, 1), (.aload_n 0, 1), (.getfield 22, 3), (.iload_n 1, 1), (.invokevirtual 199, 3), (.ireturn, 1), (.aload_n 0, 1), (.getfield 22, 3), (.iload_n 1, 1), (.invokevirtual 202, 3), (.ireturn, 1), (.bipush (-2), 2), (.ireturn, 1)]
abbrev fd_p23 : List Nat := [0, 1, 4, 5, 8, 11, 12, 15, 16, 17, 20, 23, 26, 27, 28, 29, 68, 69, 72, 73, 76, 77, 78, 81, 82, 85, 88, 89, 92, 93, 94, 95, 98, 99, 102, 103, 104, 107, 108, 111, 112, 113, 116, 117, 120, 121, 122, 125, 126, 129, 130, 132, 133]
-- 24: FoldedStrips.count(I)I
noncomputable abbrev fd_c24 : List Instr := [.iload 1, .tableswitch 26 0 10 #[2, 26, 26, 6, 10, 6, 14, 26, 26, 18, 22], .aload 0, .invokeinterface 0 0, .invokevirtual 111, .ireturn, .aload 0, .invokeinterface 0 0, .invokevirtual 89, .ireturn, .aload 0, .invokeinterface 0 0, .invokevirtual 112, .ireturn, .aload 0, .invokeinterface 0 0, .invokevirtual 113, .ireturn, .aload 0, .invokeinterface 0 3, .invokevirtual 71, .ireturn, .aload 0, .invokeinterface 0 4, .invokevirtual 39, .ireturn, .aload 0, .invokeinterface 0 2, .aload 0, .invokeinterface 0 0, .invokevirtual 41, .aload 0, .iload 1, .invokevirtual 25, .ireturn]
noncomputable abbrev fd_o24 : List (Instr × Nat) := [(.iload_n 1, 1), (.tableswitch 107 0 10 #[59, 107, 107, 67, 75, 67, 83, 107, 107, 91, 99], 59), (.aload_n 0, 1), (.getfield 12, 3), (.invokevirtual 205, 3), (.ireturn, 1), (.aload_n 0, 1), (.getfield 12, 3), (.invokevirtual 108, 3), (.ireturn, 1), (.aload_n 0, 1), (.getfield 12, 3), (.invokevirtual 208, 3), (.ireturn, 1), (.aload_n 0, 1), (.getfield 12, 3), (.invokevirtual 211, 3), (.ireturn, 1), (.aload_n 0, 1), (.getfield 29, 3), (.invokevirtual 214, 3), (.ireturn, 1), (.aload_n 0, 1), (.getfield 36, 3), (.invokevirtual 217, 3), (.ireturn, 1), (.aload_n 0, 1), (.getfield 22, 3), (.aload_n 0, 1), (.getfield 12, 3), (.invokevirtual 126, 3), (.aload_n 0, 1), (.iload_n 1, 1), (.invokevirtual 218, 3), (.ireturn, 1)]
abbrev fd_p24 : List Nat := [0, 1, 60, 61, 64, 67, 68, 69, 72, 75, 76, 77, 80, 83, 84, 85, 88, 91, 92, 93, 96, 99, 100, 101, 104, 107, 108, 109, 112, 113, 116, 119, 120, 121, 124, 125]
-- 25: FoldedStrips.countOfLines(I)I
noncomputable abbrev fd_c25 : List Instr := [.iload 1, .tableswitch 18 1 8 #[2, 6, 18, 18, 18, 18, 10, 14], .aload 0, .invokeinterface 0 2, .invokevirtual 49, .ireturn, .aload 0, .invokeinterface 0 2, .invokevirtual 55, .ireturn, .aload 0, .invokeinterface 0 2, .invokevirtual 56, .ireturn, .aload 0, .invokeinterface 0 2, .invokevirtual 57, .ireturn, .sipush (-2), .ireturn]
noncomputable abbrev fd_o25 : List (Instr × Nat) := [(.iload_n 1, 1), (.tableswitch 79 1 8 #[47, 55, 79, 79, 79, 79, 63, 71], 47), (.aload_n 0, 1), (.getfield 22, 3), (.invokevirtual 186, 3), (.ireturn, 1), (.aload_n 0, 1), (.getfield 22, 3), (.invokevirtual 221, 3), (.ireturn, 1), (.aload_n 0, 1), (.getfield 22, 3), (.invokevirtual 224, 3), (.ireturn, 1), (.aload_n 0, 1), (.getfield 22, 3), (.invokevirtual 227, 3), (.ireturn, 1), (.bipush (-2), 2), (.ireturn, 1)]
abbrev fd_p25 : List Nat := [0, 1, 48, 49, 52, 55, 56, 57, 60, 63, 64, 65, 68, 71, 72, 73, 76, 79, 80, 82, 83]
-- 26: FoldedStrips.bestSlide(II)I
noncomputable abbrev fd_c26 : List Instr := [.iload 1, .invokestatic 1, .ifCond .ne 5, .sipush (-1), .ireturn, .iload 2, .ifCond .eq 12, .iload 2, .sipush 1, .if_icmp .eq 12, .sipush (-2), .ireturn, .sipush 0, .istore 3, .aload 0, .invokeinterface 0 0, .invokevirtual 89, .istore 4, .sipush 1, .istore 5, .iload 5, .sipush 12, .if_icmp .ge 54, .sipush (-1), .istore 6, .iload 6, .sipush 1, .if_icmp .gt 52, .iload 6, .iload 5, .imul, .istore 7, .aload 0, .invokeinterface 0 0, .iload 1, .iload 7, .invokevirtual 86, .ifCond .eq 50, .aload 0, .iload 1, .iload 7, .invokevirtual 27, .istore 8, .iload 8, .iload 4, .if_icmp .ge 50, .iload 7, .istore 3, .iload 8, .istore 4, .iinc 6 2, .goto 25, .iinc 5 1, .goto 20, .iload 2, .ifCond .ne 60, .sipush 20, .iload 3, .iadd, .goto 61, .iload 4, .ireturn]
noncomputable abbrev fd_o26 : List (Instr × Nat) := [(.iload_n 1, 1), (.invokestatic 47, 3), (.ifCond .ne 5, 3), (.iconst (-1), 1), (.ireturn, 1), (.iload_n 2, 1), (.ifCond .eq 11, 3), (.iload_n 2, 1), (.iconst 1, 1), (.if_icmp .eq 6, 3), (.bipush (-2), 2), (.ireturn, 1), (.iconst 0, 1), (.istore_n 3, 1), (.aload_n 0, 1), (.getfield 12, 3), (.invokevirtual 108, 3), (.istore 4, 2), (.iconst 1, 1), (.istore 5, 2), (.iload 5, 2), (.bipush 12, 2), (.if_icmp .ge 67, 3), (.iconst (-1), 1), (.istore 6, 2), (.iload 6, 2), (.iconst 1, 1), (.if_icmp .gt 52, 3), (.iload 6, 2), (.iload 5, 2), (.imul, 1), (.istore 7, 2), (.aload_n 0, 1), (.getfield 12, 3), (.iload_n 1, 1), (.iload 7, 2), (.invokevirtual 101, 3), (.ifCond .eq 26, 3), (.aload_n 0, 1), (.iload_n 1, 1), (.iload 7, 2), (.invokevirtual 230, 3), (.istore 8, 2), (.iload 8, 2), (.iload 4, 2), (.if_icmp .ge 10, 3), (.iload 7, 2), (.istore_n 3, 1), (.iload 8, 2), (.istore 4, 2), (.iinc 6 2, 3), (.goto (-52), 3), (.iinc 5 1, 3), (.goto (-68), 3), (.iload_n 2, 1), (.ifCond .ne 10, 3), (.bipush 20, 2), (.iload_n 3, 1), (.iadd, 1), (.goto 5, 3), (.iload 4, 2), (.ireturn, 1)]
abbrev fd_p26 : List Nat := [0, 1, 4, 7, 8, 9, 10, 13, 14, 15, 18, 20, 21, 22, 23, 24, 27, 30, 32, 33, 35, 37, 39, 42, 43, 45, 47, 48, 51, 53, 55, 56, 58, 59, 62, 63, 65, 68, 71, 72, 73, 75, 78, 80, 82, 84, 87, 89, 90, 92, 94, 97, 100, 103, 106, 107, 110, 112, 113, 114, 117, 119, 120]
-- 27: FoldedStrips.looseEndsIfSlid(II)I
noncomputable abbrev fd_c27 : List Instr := [.aload 0, .invokeinterface 0 1, .aload 0, .invokeinterface 0 0, .invokevirtual 77, .aload 0, .invokeinterface 0 1, .iload 1, .iload 2, .invokevirtual 87, .aload 0, .invokeinterface 0 1, .invokevirtual 89, .ireturn]
noncomputable abbrev fd_o27 : List (Instr × Nat) := [(.aload_n 0, 1), (.getfield 16, 3), (.aload_n 0, 1), (.getfield 12, 3), (.invokevirtual 233, 3), (.aload_n 0, 1), (.getfield 16, 3), (.iload_n 1, 1), (.iload_n 2, 1), (.invokevirtual 105, 3), (.aload_n 0, 1), (.getfield 16, 3), (.invokevirtual 108, 3), (.ireturn, 1)]
abbrev fd_p27 : List Nat := [0, 1, 4, 5, 8, 11, 12, 15, 16, 17, 20, 21, 24, 27, 28]
-- 28: FoldedStrips.bestExchange(I)I
noncomputable abbrev fd_c28 : List Instr := [.iload 1, .ifCond .eq 7, .iload 1, .sipush 1, .if_icmp .eq 7, .sipush (-2), .ireturn, .sipush 0, .istore 2, .sipush 145, .istore 3, .sipush 0, .istore 4, .iload 4, .sipush 6, .if_icmp .ge 43, .iload 4, .sipush 1, .iadd, .istore 5, .iload 5, .sipush 6, .if_icmp .ge 41, .aload 0, .iload 4, .iload 5, .invokevirtual 29, .istore 6, .iload 6, .iload 3, .if_icmp .ge 39, .sipush 10, .iload 4, .imul, .iload 5, .iadd, .istore 2, .iload 6, .istore 3, .iinc 5 1, .goto 20, .iinc 4 1, .goto 13, .iload 1, .ifCond .ne 47, .iload 2, .goto 48, .iload 3, .ireturn]
noncomputable abbrev fd_o28 : List (Instr × Nat) := [(.iload_n 1, 1), (.ifCond .eq 11, 3), (.iload_n 1, 1), (.iconst 1, 1), (.if_icmp .eq 6, 3), (.bipush (-2), 2), (.ireturn, 1), (.iconst 0, 1), (.istore_n 2, 1), (.sipush 145, 3), (.istore_n 3, 1), (.iconst 0, 1), (.istore 4, 2), (.iload 4, 2), (.bipush 6, 2), (.if_icmp .ge 56, 3), (.iload 4, 2), (.iconst 1, 1), (.iadd, 1), (.istore 5, 2), (.iload 5, 2), (.bipush 6, 2), (.if_icmp .ge 37, 3), (.aload_n 0, 1), (.iload 4, 2), (.iload 5, 2), (.invokevirtual 236, 3), (.istore 6, 2), (.iload 6, 2), (.iload_n 3, 1), (.if_icmp .ge 15, 3), (.bipush 10, 2), (.iload 4, 2), (.imul, 1), (.iload 5, 2), (.iadd, 1), (.istore_n 2, 1), (.iload 6, 2), (.istore_n 3, 1), (.iinc 5 1, 3), (.goto (-38), 3), (.iinc 4 1, 3), (.goto (-57), 3), (.iload_n 1, 1), (.ifCond .ne 7, 3), (.iload_n 2, 1), (.goto 4, 3), (.iload_n 3, 1), (.ireturn, 1)]
abbrev fd_p28 : List Nat := [0, 1, 4, 5, 6, 9, 11, 12, 13, 14, 17, 18, 19, 21, 23, 25, 28, 30, 31, 32, 34, 36, 38, 41, 42, 44, 46, 49, 51, 53, 54, 57, 59, 61, 62, 64, 65, 66, 68, 69, 72, 75, 78, 81, 82, 85, 86, 89, 90, 91]
-- 29: FoldedStrips.looseEndsIfExchanged(II)I
noncomputable abbrev fd_c29 : List Instr := [.aload 0, .invokeinterface 0 1, .aload 0, .invokeinterface 0 0, .invokevirtual 77, .aload 0, .invokeinterface 0 1, .iload 1, .iload 2, .invokevirtual 94, .aload 0, .invokeinterface 0 1, .invokevirtual 89, .ireturn]
noncomputable abbrev fd_o29 : List (Instr × Nat) := [(.aload_n 0, 1), (.getfield 16, 3), (.aload_n 0, 1), (.getfield 12, 3), (.invokevirtual 233, 3), (.aload_n 0, 1), (.getfield 16, 3), (.iload_n 1, 1), (.iload_n 2, 1), (.invokevirtual 117, 3), (.aload_n 0, 1), (.getfield 16, 3), (.invokevirtual 108, 3), (.ireturn, 1)]
abbrev fd_p29 : List Nat := [0, 1, 4, 5, 8, 11, 12, 15, 16, 17, 20, 21, 24, 27, 28]
-- 30: FoldedStrips.ifTurned(III)I
noncomputable abbrev fd_c30 : List Instr := [.iload 1, .invokestatic 1, .ifCond .ne 5, .sipush (-1), .ireturn, .iload 2, .invokestatic 13, .ifCond .eq 13, .iload 3, .ifCond .lt 13, .iload 3, .sipush 2, .if_icmp .le 15, .sipush (-2), .ireturn, .aload 0, .invokeinterface 0 1, .aload 0, .invokeinterface 0 0, .invokevirtual 77, .aload 0, .invokeinterface 0 1, .iload 1, .iload 2, .invokevirtual 92, .iload 3, .ifCond .ne 31, .aload 0, .invokeinterface 0 1, .invokevirtual 89, .ireturn, .aload 0, .invokeinterface 0 2, .aload 0, .invokeinterface 0 1, .invokevirtual 41, .iload 3, .sipush 1, .if_icmp .ne 43, .aload 0, .invokeinterface 0 2, .invokevirtual 49, .goto 46, .aload 0, .invokeinterface 0 2, .invokevirtual 55, .ireturn]
noncomputable abbrev fd_o30 : List (Instr × Nat) := [(.iload_n 1, 1), (.invokestatic 47, 3), (.ifCond .ne 5, 3), (.iconst (-1), 1), (.ireturn, 1), (.iload_n 2, 1), (.invokestatic 111, 3), (.ifCond .eq 12, 3), (.iload_n 3, 1), (.ifCond .lt 8, 3), (.iload_n 3, 1), (.iconst 2, 1), (.if_icmp .le 6, 3), (.bipush (-2), 2), (.ireturn, 1), (.aload_n 0, 1), (.getfield 16, 3), (.aload_n 0, 1), (.getfield 12, 3), (.invokevirtual 233, 3), (.aload_n 0, 1), (.getfield 16, 3), (.iload_n 1, 1), (.iload_n 2, 1), (.invokevirtual 114, 3), (.iload_n 3, 1), (.ifCond .ne 11, 3), (.aload_n 0, 1), (.getfield 16, 3), (.invokevirtual 108, 3), (.ireturn, 1), (.aload_n 0, 1), (.getfield 22, 3), (.aload_n 0, 1), (.getfield 16, 3), (.invokevirtual 126, 3), (.iload_n 3, 1), (.iconst 1, 1), (.if_icmp .ne 13, 3), (.aload_n 0, 1), (.getfield 22, 3), (.invokevirtual 186, 3), (.goto 10, 3), (.aload_n 0, 1), (.getfield 22, 3), (.invokevirtual 221, 3), (.ireturn, 1)]
abbrev fd_p30 : List Nat := [0, 1, 4, 7, 8, 9, 10, 13, 16, 17, 20, 21, 22, 25, 27, 28, 29, 32, 33, 36, 39, 40, 43, 44, 45, 48, 49, 52, 53, 56, 59, 60, 61, 64, 65, 68, 71, 72, 73, 76, 77, 80, 83, 86, 87, 90, 93, 94]
-- 31: none
noncomputable abbrev fd_c31 : List Instr := []
noncomputable abbrev fd_o31 : List (Instr × Nat) := []
abbrev fd_p31 : List Nat := []
-- 32: none
noncomputable abbrev fd_c32 : List Instr := []
noncomputable abbrev fd_o32 : List (Instr × Nat) := []
abbrev fd_p32 : List Nat := []
-- 33: none
noncomputable abbrev fd_c33 : List Instr := []
noncomputable abbrev fd_o33 : List (Instr × Nat) := []
abbrev fd_p33 : List Nat := []
-- 34: FoldedStrips.undo()I
noncomputable abbrev fd_c34 : List Instr := [.aload 0, .invokeinterface 0 4, .invokevirtual 39, .ifCond .ne 6, .sipush (-5), .ireturn, .aload 0, .invokeinterface 0 4, .aload 0, .invokeinterface 0 0, .invokevirtual 40, .aload 0, .invokeinterface 0 4, .invokevirtual 39, .ireturn]
noncomputable abbrev fd_o34 : List (Instr × Nat) := [(.aload_n 0, 1), (.getfield 36, 3), (.invokevirtual 217, 3), (.ifCond .ne 6, 3), (.bipush (-5), 2), (.ireturn, 1), (.aload_n 0, 1), (.getfield 36, 3), (.aload_n 0, 1), (.getfield 12, 3), (.invokevirtual 247, 3), (.aload_n 0, 1), (.getfield 36, 3), (.invokevirtual 217, 3), (.ireturn, 1)]
abbrev fd_p34 : List Nat := [0, 1, 4, 7, 10, 12, 13, 14, 17, 18, 21, 24, 25, 28, 31, 32]
-- 35: FoldedStrips.save(I)I
noncomputable abbrev fd_c35 : List Instr := [.iload 1, .invokestatic 36, .ifCond .ne 5, .sipush (-2), .ireturn, .aload 0, .invokeinterface 0 5, .iload 1, .aload 0, .invokeinterface 0 0, .invokevirtual 74, .aload 0, .invokeinterface 0 0, .invokevirtual 111, .ireturn]
noncomputable abbrev fd_o35 : List (Instr × Nat) := [(.iload_n 1, 1), (.invokestatic 250, 3), (.ifCond .ne 6, 3), (.bipush (-2), 2), (.ireturn, 1), (.aload_n 0, 1), (.getfield 43, 3), (.iload_n 1, 1), (.aload_n 0, 1), (.getfield 12, 3), (.invokevirtual 253, 3), (.aload_n 0, 1), (.getfield 12, 3), (.invokevirtual 205, 3), (.ireturn, 1)]
abbrev fd_p35 : List Nat := [0, 1, 4, 7, 9, 10, 11, 14, 15, 16, 19, 22, 23, 26, 29, 30]
-- 36: FoldedStrips.isSlot(I)Z
noncomputable abbrev fd_c36 : List Instr := [.iload 0, .ifCond .lt 7, .iload 0, .sipush 2, .if_icmp .ge 7, .sipush 1, .goto 8, .sipush 0, .ireturn]
noncomputable abbrev fd_o36 : List (Instr × Nat) := [(.iload_n 0, 1), (.ifCond .lt 12, 3), (.iload_n 0, 1), (.iconst 2, 1), (.if_icmp .ge 7, 3), (.iconst 1, 1), (.goto 4, 3), (.iconst 0, 1), (.ireturn, 1)]
abbrev fd_p36 : List Nat := [0, 1, 4, 5, 6, 9, 10, 13, 14, 15]
-- 37: FoldedStrips.restore(I)I
noncomputable abbrev fd_c37 : List Instr := [.iload 1, .invokestatic 36, .ifCond .ne 5, .sipush (-2), .ireturn, .aload 0, .invokeinterface 0 5, .iload 1, .invokevirtual 75, .ifCond .ne 12, .sipush (-5), .ireturn, .aload 0, .invokeinterface 0 4, .aload 0, .invokeinterface 0 0, .invokevirtual 38, .aload 0, .invokeinterface 0 5, .iload 1, .aload 0, .invokeinterface 0 0, .invokevirtual 76, .aload 0, .invokeinterface 0 0, .invokevirtual 111, .ireturn]
noncomputable abbrev fd_o37 : List (Instr × Nat) := [(.iload_n 1, 1), (.invokestatic 250, 3), (.ifCond .ne 6, 3), (.bipush (-2), 2), (.ireturn, 1), (.aload_n 0, 1), (.getfield 43, 3), (.iload_n 1, 1), (.invokevirtual 257, 3), (.ifCond .ne 6, 3), (.bipush (-5), 2), (.ireturn, 1), (.aload_n 0, 1), (.getfield 36, 3), (.aload_n 0, 1), (.getfield 12, 3), (.invokevirtual 58, 3), (.aload_n 0, 1), (.getfield 43, 3), (.iload_n 1, 1), (.aload_n 0, 1), (.getfield 12, 3), (.invokevirtual 260, 3), (.aload_n 0, 1), (.getfield 12, 3), (.invokevirtual 205, 3), (.ireturn, 1)]
abbrev fd_p37 : List Nat := [0, 1, 4, 7, 9, 10, 11, 14, 15, 18, 21, 23, 24, 25, 28, 29, 32, 35, 36, 39, 40, 41, 44, 47, 48, 51, 54, 55]
-- 38: FoldedStrips$History.remember(LFoldedStrips$Strip;)V
noncomputable abbrev fd_c38 : List Instr := [.aload 0, .aload 0, .invokeinterface 1 2, .invokevirtual 192, .astore 2, .aload 2, .ifnonnull 8, .return_, .aload 2, .aload 1, .invokevirtual 77, .aload 0, .aload 0, .invokeinterface 1 2, .sipush 1, .iadd, .sipush 6, .irem, .multianewarray 1 2, .aload 0, .aload 0, .invokeinterface 1 1, .sipush 1, .iadd, .sipush 6, .pop2, .multianewarray 1 1, .return_]
noncomputable abbrev fd_o38 : List (Instr × Nat) := [(.aload_n 0, 1), (.aload_n 0, 1), (.getfield 21, 3), (.invokevirtual 25, 3), (.astore_n 2, 1), (.aload_n 2, 1), (.ifnonnull 4, 3), (.return_, 1), (.aload_n 2, 1), (.aload_n 1, 1), (.invokevirtual 29, 3), (.aload_n 0, 1), (.aload_n 0, 1), (.getfield 21, 3), (.iconst 1, 1), (.iadd, 1), (.bipush 6, 2), (.irem, 1), (.putfield 21, 3), (.aload_n 0, 1), (.aload_n 0, 1), (.getfield 17, 3), (.iconst 1, 1), (.iadd, 1), (.bipush 6, 2), (.invokestatic 33, 3), (.putfield 17, 3), (.return_, 1)]
abbrev fd_p38 : List Nat := [0, 1, 2, 5, 8, 9, 10, 13, 14, 15, 16, 19, 20, 21, 24, 25, 26, 28, 29, 32, 33, 34, 37, 38, 39, 41, 44, 47, 48]
-- 39: FoldedStrips$History.size()I
noncomputable abbrev fd_c39 : List Instr := [.aload 0, .invokeinterface 1 1, .ireturn]
noncomputable abbrev fd_o39 : List (Instr × Nat) := [(.aload_n 0, 1), (.getfield 17, 3), (.ireturn, 1)]
abbrev fd_p39 : List Nat := [0, 1, 4, 5]
-- 40: FoldedStrips$History.goBack(LFoldedStrips$Strip;)V
noncomputable abbrev fd_c40 : List Instr := [.aload 0, .invokeinterface 1 2, .sipush 6, .iadd, .sipush 1, .isub, .sipush 6, .irem, .istore 2, .aload 0, .iload 2, .invokevirtual 192, .astore 3, .aload 3, .ifnull 18, .aload 0, .invokeinterface 1 1, .ifCond .ne 19, .return_, .aload 1, .aload 3, .invokevirtual 77, .aload 0, .iload 2, .multianewarray 1 2, .aload 0, .dup, .invokeinterface 1 1, .sipush 1, .isub, .multianewarray 1 1, .return_]
noncomputable abbrev fd_o40 : List (Instr × Nat) := [(.aload_n 0, 1), (.getfield 21, 3), (.bipush 6, 2), (.iadd, 1), (.iconst 1, 1), (.isub, 1), (.bipush 6, 2), (.irem, 1), (.istore_n 2, 1), (.aload_n 0, 1), (.iload_n 2, 1), (.invokevirtual 25, 3), (.astore_n 3, 1), (.aload_n 3, 1), (.ifnull 10, 3), (.aload_n 0, 1), (.getfield 17, 3), (.ifCond .ne 4, 3), (.return_, 1), (.aload_n 1, 1), (.aload_n 3, 1), (.invokevirtual 29, 3), (.aload_n 0, 1), (.iload_n 2, 1), (.putfield 21, 3), (.aload_n 0, 1), (.dup, 1), (.getfield 17, 3), (.iconst 1, 1), (.isub, 1), (.putfield 17, 3), (.return_, 1)]
abbrev fd_p40 : List Nat := [0, 1, 4, 6, 7, 8, 9, 11, 12, 13, 14, 15, 18, 19, 20, 23, 24, 27, 30, 31, 32, 33, 36, 37, 38, 41, 42, 43, 46, 47, 48, 51, 52]
-- 41: FoldedStrips$Lines.trace(LFoldedStrips$Strip;)V
noncomputable abbrev fd_c41 : List Instr := [.aload 0, .sipush 0, .multianewarray 2 0, .aload 0, .invokeinterface 2 1, .sipush (-1), .invokestatic 183, .sipush 0, .istore 2, .iload 2, .sipush 144, .if_icmp .ge 28, .aload 1, .iload 2, .invokevirtual 83, .ifCond .eq 26, .aload 0, .invokeinterface 2 1, .iload 2, .iaload, .sipush (-1), .if_icmp .ne 26, .aload 0, .aload 1, .iload 2, .invokevirtual 42, .iinc 2 1, .goto 9, .return_]
noncomputable abbrev fd_o41 : List (Instr × Nat) := [(.aload_n 0, 1), (.iconst 0, 1), (.putfield 9, 3), (.aload_n 0, 1), (.getfield 15, 3), (.iconst (-1), 1), (.invokestatic 38, 3), (.iconst 0, 1), (.istore_n 2, 1), (.iload_n 2, 1), (.sipush 144, 3), (.if_icmp .ge 33, 3), (.aload_n 1, 1), (.iload_n 2, 1), (.invokevirtual 44, 3), (.ifCond .eq 19, 3), (.aload_n 0, 1), (.getfield 15, 3), (.iload_n 2, 1), (.iaload, 1), (.iconst (-1), 1), (.if_icmp .ne 9, 3), (.aload_n 0, 1), (.aload_n 1, 1), (.iload_n 2, 1), (.invokevirtual 50, 3), (.iinc 2 1, 3), (.goto (-34), 3), (.return_, 1)]
abbrev fd_p41 : List Nat := [0, 1, 2, 5, 6, 9, 10, 13, 14, 15, 16, 19, 22, 23, 24, 27, 30, 31, 34, 35, 36, 37, 40, 41, 42, 43, 46, 49, 52, 53]
-- 42: FoldedStrips$Lines.addLine(LFoldedStrips$Strip;I)V
noncomputable abbrev fd_c42 : List Instr := [.aload 0, .invokeinterface 2 0, .istore 3, .iload 3, .invokestatic 43, .ifCond .ne 7, .return_, .aload 0, .dup, .invokeinterface 2 0, .sipush 1, .iadd, .multianewarray 2 0, .aload 0, .invokeinterface 2 2, .iload 3, .sipush 0, .iastore, .aload 0, .invokeinterface 2 3, .iload 3, .sipush 0, .iastore, .aload 0, .invokeinterface 2 4, .iload 3, .sipush 0, .iastore, .aload 0, .aload 1, .iload 3, .iload 2, .invokevirtual 44, .istore 4, .aload 0, .aload 1, .iload 3, .iload 2, .invokestatic 17, .invokevirtual 44, .istore 5, .iload 5, .sipush (-1), .if_icmp .ne 46, .iload 2, .istore 5, .aload 0, .invokeinterface 2 7, .iload 3, .iload 4, .invokestatic 17, .iload 2, .if_icmp .ne 55, .sipush 1, .goto 56, .sipush 0, .bastore, .aload 0, .invokeinterface 2 5, .iload 3, .aload 0, .invokeinterface 2 7, .iload 3, .baload, .ifCond .eq 67, .sipush (-6), .goto 70, .iload 4, .iload 5, .pop2, .iastore, .aload 0, .invokeinterface 2 6, .iload 3, .aload 0, .invokeinterface 2 7, .iload 3, .baload, .ifCond .eq 81, .sipush (-6), .goto 84, .iload 4, .iload 5, .swap, .iastore, .return_]
noncomputable abbrev fd_o42 : List (Instr × Nat) := [(.aload_n 0, 1), (.getfield 9, 3), (.istore_n 3, 1), (.iload_n 3, 1), (.invokestatic 54, 3), (.ifCond .ne 4, 3), (.return_, 1), (.aload_n 0, 1), (.dup, 1), (.getfield 9, 3), (.iconst 1, 1), (.iadd, 1), (.putfield 9, 3), (.aload_n 0, 1), (.getfield 19, 3), (.iload_n 3, 1), (.iconst 0, 1), (.iastore, 1), (.aload_n 0, 1), (.getfield 22, 3), (.iload_n 3, 1), (.iconst 0, 1), (.iastore, 1), (.aload_n 0, 1), (.getfield 25, 3), (.iload_n 3, 1), (.iconst 0, 1), (.iastore, 1), (.aload_n 0, 1), (.aload_n 1, 1), (.iload_n 3, 1), (.iload_n 2, 1), (.invokevirtual 57, 3), (.istore 4, 2), (.aload_n 0, 1), (.aload_n 1, 1), (.iload_n 3, 1), (.iload_n 2, 1), (.invokestatic 61, 3), (.invokevirtual 57, 3), (.istore 5, 2), (.iload 5, 2), (.iconst (-1), 1), (.if_icmp .ne 6, 3), (.iload_n 2, 1), (.istore 5, 2), (.aload_n 0, 1), (.getfield 34, 3), (.iload_n 3, 1), (.iload 4, 2), (.invokestatic 61, 3), (.iload_n 2, 1), (.if_icmp .ne 7, 3), (.iconst 1, 1), (.goto 4, 3), (.iconst 0, 1), (.bastore, 1), (.aload_n 0, 1), (.getfield 28, 3), (.iload_n 3, 1), (.aload_n 0, 1), (.getfield 34, 3), (.iload_n 3, 1), (.baload, 1), (.ifCond .eq 8, 3), (.bipush (-6), 2), (.goto 10, 3), (.iload 4, 2), (.iload 5, 2), (.invokestatic 65, 3), (.iastore, 1), (.aload_n 0, 1), (.getfield 31, 3), (.iload_n 3, 1), (.aload_n 0, 1), (.getfield 34, 3), (.iload_n 3, 1), (.baload, 1), (.ifCond .eq 8, 3), (.bipush (-6), 2), (.goto 10, 3), (.iload 4, 2), (.iload 5, 2), (.invokestatic 71, 3), (.iastore, 1), (.return_, 1)]
abbrev fd_p42 : List Nat := [0, 1, 4, 5, 6, 9, 12, 13, 14, 15, 18, 19, 20, 23, 24, 27, 28, 29, 30, 31, 34, 35, 36, 37, 38, 41, 42, 43, 44, 45, 46, 47, 48, 51, 53, 54, 55, 56, 57, 60, 63, 65, 67, 68, 71, 72, 74, 75, 78, 79, 81, 84, 85, 88, 89, 92, 93, 94, 95, 98, 99, 100, 103, 104, 105, 108, 110, 113, 115, 117, 120, 121, 122, 125, 126, 127, 130, 131, 132, 135, 137, 140, 142, 144, 147, 148, 149]
-- 43: FoldedStrips$Lines.isIndex(I)Z
noncomputable abbrev fd_c43 : List Instr := [.iload 0, .ifCond .lt 7, .iload 0, .sipush 72, .if_icmp .ge 7, .sipush 1, .goto 8, .sipush 0, .ireturn]
noncomputable abbrev fd_o43 : List (Instr × Nat) := [(.iload_n 0, 1), (.ifCond .lt 13, 3), (.iload_n 0, 1), (.bipush 72, 2), (.if_icmp .ge 7, 3), (.iconst 1, 1), (.goto 4, 3), (.iconst 0, 1), (.ireturn, 1)]
abbrev fd_p43 : List Nat := [0, 1, 4, 5, 7, 10, 11, 14, 15, 16]
-- 44: FoldedStrips$Lines.follow(LFoldedStrips$Strip;II)I
noncomputable abbrev fd_c44 : List Instr := [.iload 3, .istore 4, .sipush (-1), .istore 5, .sipush 0, .istore 6, .iload 6, .sipush 72, .if_icmp .ge 36, .aload 1, .iload 4, .invokevirtual 83, .ifCond .eq 19, .aload 0, .invokeinterface 2 1, .iload 4, .iaload, .sipush (-1), .if_icmp .eq 21, .iload 5, .ireturn, .aload 1, .iload 4, .invokevirtual 98, .istore 5, .aload 0, .aload 1, .iload 2, .iload 4, .iload 5, .invokevirtual 45, .iload 5, .invokestatic 17, .istore 4, .iinc 6 1, .goto 6, .iload 5, .ireturn]
noncomputable abbrev fd_o44 : List (Instr × Nat) := [(.iload_n 3, 1), (.istore 4, 2), (.iconst (-1), 1), (.istore 5, 2), (.iconst 0, 1), (.istore 6, 2), (.iload 6, 2), (.bipush 72, 2), (.if_icmp .ge 57, 3), (.aload_n 1, 1), (.iload 4, 2), (.invokevirtual 44, 3), (.ifCond .eq 14, 3), (.aload_n 0, 1), (.getfield 15, 3), (.iload 4, 2), (.iaload, 1), (.iconst (-1), 1), (.if_icmp .eq 6, 3), (.iload 5, 2), (.ireturn, 1), (.aload_n 1, 1), (.iload 4, 2), (.invokevirtual 74, 3), (.istore 5, 2), (.aload_n 0, 1), (.aload_n 1, 1), (.iload_n 2, 1), (.iload 4, 2), (.iload 5, 2), (.invokevirtual 77, 3), (.iload 5, 2), (.invokestatic 61, 3), (.istore 4, 2), (.iinc 6 1, 3), (.goto (-58), 3), (.iload 5, 2), (.ireturn, 1)]
abbrev fd_p44 : List Nat := [0, 1, 3, 4, 6, 7, 9, 11, 13, 16, 17, 19, 22, 25, 26, 29, 31, 32, 33, 36, 38, 39, 40, 42, 45, 47, 48, 49, 50, 52, 54, 57, 59, 62, 64, 67, 70, 72, 73]
-- 45: FoldedStrips$Lines.take(LFoldedStrips$Strip;III)V
noncomputable abbrev fd_c45 : List Instr := [.iload 2, .invokestatic 43, .ifCond .eq 9, .iload 3, .invokestatic 6, .ifCond .eq 9, .iload 4, .invokestatic 6, .ifCond .ne 10, .return_, .aload 0, .invokeinterface 2 1, .iload 3, .iload 2, .iastore, .aload 0, .invokeinterface 2 1, .iload 4, .iload 2, .iastore, .aload 0, .invokeinterface 2 2, .iload 2, .dup2, .iaload, .sipush 1, .iadd, .iastore, .aload 0, .invokeinterface 2 3, .iload 2, .dup2, .iaload, .sipush 1, .iload 3, .invokestatic 18, .ishl, .ior, .iastore, .aload 0, .invokeinterface 2 4, .iload 2, .dup2, .iaload, .sipush 1, .aload 1, .iload 3, .invokestatic 18, .invokevirtual 99, .ishl, .ior, .iastore, .return_]
noncomputable abbrev fd_o45 : List (Instr × Nat) := [(.iload_n 2, 1), (.invokestatic 54, 3), (.ifCond .eq 18, 3), (.iload_n 3, 1), (.invokestatic 81, 3), (.ifCond .eq 11, 3), (.iload 4, 2), (.invokestatic 81, 3), (.ifCond .ne 4, 3), (.return_, 1), (.aload_n 0, 1), (.getfield 15, 3), (.iload_n 3, 1), (.iload_n 2, 1), (.iastore, 1), (.aload_n 0, 1), (.getfield 15, 3), (.iload 4, 2), (.iload_n 2, 1), (.iastore, 1), (.aload_n 0, 1), (.getfield 19, 3), (.iload_n 2, 1), (.dup2, 1), (.iaload, 1), (.iconst 1, 1), (.iadd, 1), (.iastore, 1), (.aload_n 0, 1), (.getfield 22, 3), (.iload_n 2, 1), (.dup2, 1), (.iaload, 1), (.iconst 1, 1), (.iload_n 3, 1), (.invokestatic 84, 3), (.ishl, 1), (.ior, 1), (.iastore, 1), (.aload_n 0, 1), (.getfield 25, 3), (.iload_n 2, 1), (.dup2, 1), (.iaload, 1), (.iconst 1, 1), (.aload_n 1, 1), (.iload_n 3, 1), (.invokestatic 84, 3), (.invokevirtual 87, 3), (.ishl, 1), (.ior, 1), (.iastore, 1), (.return_, 1)]
abbrev fd_p45 : List Nat := [0, 1, 4, 7, 8, 11, 14, 16, 19, 22, 23, 24, 27, 28, 29, 30, 31, 34, 36, 37, 38, 39, 42, 43, 44, 45, 46, 47, 48, 49, 52, 53, 54, 55, 56, 57, 60, 61, 62, 63, 64, 67, 68, 69, 70, 71, 72, 73, 76, 79, 80, 81, 82, 83]
-- 46: FoldedStrips$Lines.lineAt(I)I
noncomputable abbrev fd_c46 : List Instr := [.iload 1, .invokestatic 6, .ifCond .eq 8, .aload 0, .invokeinterface 2 1, .iload 1, .iaload, .goto 9, .sipush (-1), .ireturn]
noncomputable abbrev fd_o46 : List (Instr × Nat) := [(.iload_n 1, 1), (.invokestatic 81, 3), (.ifCond .eq 12, 3), (.aload_n 0, 1), (.getfield 15, 3), (.iload_n 1, 1), (.iaload, 1), (.goto 4, 3), (.iconst (-1), 1), (.ireturn, 1)]
abbrev fd_p46 : List Nat := [0, 1, 4, 7, 8, 11, 12, 13, 16, 17, 18]
-- 47: FoldedStrips$Lines.linesIn(I)I
noncomputable abbrev fd_c47 : List Instr := [.sipush 0, .istore 2, .sipush 0, .istore 3, .iload 3, .aload 0, .invokeinterface 2 0, .if_icmp .ge 19, .aload 0, .iload 3, .invokevirtual 48, .sipush 1, .iload 1, .ishl, .iand, .ifCond .eq 17, .iinc 2 1, .iinc 3 1, .goto 4, .iload 2, .ireturn]
noncomputable abbrev fd_o47 : List (Instr × Nat) := [(.iconst 0, 1), (.istore_n 2, 1), (.iconst 0, 1), (.istore_n 3, 1), (.iload_n 3, 1), (.aload_n 0, 1), (.getfield 9, 3), (.if_icmp .ge 24, 3), (.aload_n 0, 1), (.iload_n 3, 1), (.invokevirtual 90, 3), (.iconst 1, 1), (.iload_n 1, 1), (.ishl, 1), (.iand, 1), (.ifCond .eq 6, 3), (.iinc 2 1, 3), (.iinc 3 1, 3), (.goto (-26), 3), (.iload_n 2, 1), (.ireturn, 1)]
abbrev fd_p47 : List Nat := [0, 1, 2, 3, 4, 5, 6, 9, 12, 13, 14, 17, 18, 19, 20, 21, 24, 27, 30, 33, 34, 35]
-- 48: FoldedStrips$Lines.panelSetOf(I)I
noncomputable abbrev fd_c48 : List Instr := [.iload 1, .invokestatic 43, .ifCond .eq 8, .aload 0, .invokeinterface 2 3, .iload 1, .iaload, .goto 9, .sipush 0, .ireturn]
noncomputable abbrev fd_o48 : List (Instr × Nat) := [(.iload_n 1, 1), (.invokestatic 54, 3), (.ifCond .eq 12, 3), (.aload_n 0, 1), (.getfield 22, 3), (.iload_n 1, 1), (.iaload, 1), (.goto 4, 3), (.iconst 0, 1), (.ireturn, 1)]
abbrev fd_p48 : List Nat := [0, 1, 4, 7, 8, 11, 12, 13, 16, 17, 18]
-- 49: FoldedStrips$Lines.size()I
noncomputable abbrev fd_c49 : List Instr := [.aload 0, .invokeinterface 2 0, .ireturn]
noncomputable abbrev fd_o49 : List (Instr × Nat) := [(.aload_n 0, 1), (.getfield 9, 3), (.ireturn, 1)]
abbrev fd_p49 : List Nat := [0, 1, 4, 5]
-- 50: FoldedStrips$Lines.strokesOf(I)I
noncomputable abbrev fd_c50 : List Instr := [.iload 1, .invokestatic 43, .ifCond .eq 8, .aload 0, .invokeinterface 2 2, .iload 1, .iaload, .goto 9, .sipush 0, .ireturn]
noncomputable abbrev fd_o50 : List (Instr × Nat) := [(.iload_n 1, 1), (.invokestatic 54, 3), (.ifCond .eq 12, 3), (.aload_n 0, 1), (.getfield 19, 3), (.iload_n 1, 1), (.iaload, 1), (.goto 4, 3), (.iconst 0, 1), (.ireturn, 1)]
abbrev fd_p50 : List Nat := [0, 1, 4, 7, 8, 11, 12, 13, 16, 17, 18]
-- 51: FoldedStrips$Lines.isLoop(I)Z
noncomputable abbrev fd_c51 : List Instr := [.iload 1, .invokestatic 43, .ifCond .eq 10, .aload 0, .invokeinterface 2 7, .iload 1, .baload, .ifCond .eq 10, .sipush 1, .goto 11, .sipush 0, .ireturn]
noncomputable abbrev fd_o51 : List (Instr × Nat) := [(.iload_n 1, 1), (.invokestatic 54, 3), (.ifCond .eq 16, 3), (.aload_n 0, 1), (.getfield 34, 3), (.iload_n 1, 1), (.baload, 1), (.ifCond .eq 7, 3), (.iconst 1, 1), (.goto 4, 3), (.iconst 0, 1), (.ireturn, 1)]
abbrev fd_p51 : List Nat := [0, 1, 4, 7, 8, 11, 12, 13, 16, 17, 20, 21, 22]
-- 52: FoldedStrips$Lines.handSetOf(I)I
noncomputable abbrev fd_c52 : List Instr := [.iload 1, .invokestatic 43, .ifCond .eq 8, .aload 0, .invokeinterface 2 4, .iload 1, .iaload, .goto 9, .sipush 0, .ireturn]
noncomputable abbrev fd_o52 : List (Instr × Nat) := [(.iload_n 1, 1), (.invokestatic 54, 3), (.ifCond .eq 12, 3), (.aload_n 0, 1), (.getfield 25, 3), (.iload_n 1, 1), (.iaload, 1), (.goto 4, 3), (.iconst 0, 1), (.ireturn, 1)]
abbrev fd_p52 : List Nat := [0, 1, 4, 7, 8, 11, 12, 13, 16, 17, 18]
-- 53: FoldedStrips$Lines.lesserEndOf(I)I
noncomputable abbrev fd_c53 : List Instr := [.iload 1, .invokestatic 43, .ifCond .eq 8, .aload 0, .invokeinterface 2 5, .iload 1, .iaload, .goto 9, .sipush (-6), .ireturn]
noncomputable abbrev fd_o53 : List (Instr × Nat) := [(.iload_n 1, 1), (.invokestatic 54, 3), (.ifCond .eq 12, 3), (.aload_n 0, 1), (.getfield 28, 3), (.iload_n 1, 1), (.iaload, 1), (.goto 5, 3), (.bipush (-6), 2), (.ireturn, 1)]
abbrev fd_p53 : List Nat := [0, 1, 4, 7, 8, 11, 12, 13, 16, 18, 19]
-- 54: FoldedStrips$Lines.greaterEndOf(I)I
noncomputable abbrev fd_c54 : List Instr := [.iload 1, .invokestatic 43, .ifCond .eq 8, .aload 0, .invokeinterface 2 6, .iload 1, .iaload, .goto 9, .sipush (-6), .ireturn]
noncomputable abbrev fd_o54 : List (Instr × Nat) := [(.iload_n 1, 1), (.invokestatic 54, 3), (.ifCond .eq 12, 3), (.aload_n 0, 1), (.getfield 31, 3), (.iload_n 1, 1), (.iaload, 1), (.goto 5, 3), (.bipush (-6), 2), (.ireturn, 1)]
abbrev fd_p54 : List Nat := [0, 1, 4, 7, 8, 11, 12, 13, 16, 18, 19]
-- 55: FoldedStrips$Lines.loops()I
noncomputable abbrev fd_c55 : List Instr := [.sipush 0, .istore 1, .sipush 0, .istore 2, .iload 2, .aload 0, .invokeinterface 2 0, .if_icmp .ge 15, .aload 0, .iload 2, .invokevirtual 51, .ifCond .eq 13, .iinc 1 1, .iinc 2 1, .goto 4, .iload 1, .ireturn]
noncomputable abbrev fd_o55 : List (Instr × Nat) := [(.iconst 0, 1), (.istore_n 1, 1), (.iconst 0, 1), (.istore_n 2, 1), (.iload_n 2, 1), (.aload_n 0, 1), (.getfield 9, 3), (.if_icmp .ge 20, 3), (.aload_n 0, 1), (.iload_n 2, 1), (.invokevirtual 93, 3), (.ifCond .eq 6, 3), (.iinc 1 1, 3), (.iinc 2 1, 3), (.goto (-22), 3), (.iload_n 1, 1), (.ireturn, 1)]
abbrev fd_p55 : List Nat := [0, 1, 2, 3, 4, 5, 6, 9, 12, 13, 14, 17, 20, 23, 26, 29, 30, 31]
-- 56: FoldedStrips$Lines.longest()I
noncomputable abbrev fd_c56 : List Instr := [.sipush 0, .istore 1, .sipush 0, .istore 2, .iload 2, .aload 0, .invokeinterface 2 0, .if_icmp .ge 16, .iload 1, .aload 0, .iload 2, .invokevirtual 50, .swap, .istore 1, .iinc 2 1, .goto 4, .iload 1, .ireturn]
noncomputable abbrev fd_o56 : List (Instr × Nat) := [(.iconst 0, 1), (.istore_n 1, 1), (.iconst 0, 1), (.istore_n 2, 1), (.iload_n 2, 1), (.aload_n 0, 1), (.getfield 9, 3), (.if_icmp .ge 19, 3), (.iload_n 1, 1), (.aload_n 0, 1), (.iload_n 2, 1), (.invokevirtual 96, 3), (.invokestatic 71, 3), (.istore_n 1, 1), (.iinc 2 1, 3), (.goto (-21), 3), (.iload_n 1, 1), (.ireturn, 1)]
abbrev fd_p56 : List Nat := [0, 1, 2, 3, 4, 5, 6, 9, 12, 13, 14, 15, 18, 21, 22, 25, 28, 29, 30]
-- 57: FoldedStrips$Lines.fromTopToBottom()I
noncomputable abbrev fd_c57 : List Instr := [.sipush 0, .istore 1, .sipush 0, .istore 2, .iload 2, .aload 0, .invokeinterface 2 0, .if_icmp .ge 31, .aload 0, .iload 2, .invokevirtual 51, .ifCond .ne 19, .aload 0, .iload 2, .invokevirtual 53, .sipush 12, .if_icmp .ge 19, .sipush 1, .goto 20, .sipush 0, .istore 3, .iload 3, .ifCond .eq 29, .aload 0, .iload 2, .invokevirtual 54, .sipush 132, .if_icmp .lt 29, .iinc 1 1, .iinc 2 1, .goto 4, .iload 1, .ireturn]
noncomputable abbrev fd_o57 : List (Instr × Nat) := [(.iconst 0, 1), (.istore_n 1, 1), (.iconst 0, 1), (.istore_n 2, 1), (.iload_n 2, 1), (.aload_n 0, 1), (.getfield 9, 3), (.if_icmp .ge 51, 3), (.aload_n 0, 1), (.iload_n 2, 1), (.invokevirtual 93, 3), (.ifCond .ne 17, 3), (.aload_n 0, 1), (.iload_n 2, 1), (.invokevirtual 99, 3), (.bipush 12, 2), (.if_icmp .ge 7, 3), (.iconst 1, 1), (.goto 4, 3), (.iconst 0, 1), (.istore_n 3, 1), (.iload_n 3, 1), (.ifCond .eq 17, 3), (.aload_n 0, 1), (.iload_n 2, 1), (.invokevirtual 102, 3), (.sipush 132, 3), (.if_icmp .lt 6, 3), (.iinc 1 1, 3), (.iinc 2 1, 3), (.goto (-53), 3), (.iload_n 1, 1), (.ireturn, 1)]
abbrev fd_p57 : List Nat := [0, 1, 2, 3, 4, 5, 6, 9, 12, 13, 14, 17, 20, 21, 22, 25, 27, 30, 31, 34, 35, 36, 37, 40, 41, 42, 45, 48, 51, 54, 57, 60, 61, 62]
-- 58: none
noncomputable abbrev fd_c58 : List Instr := []
noncomputable abbrev fd_o58 : List (Instr × Nat) := []
abbrev fd_p58 : List Nat := []
-- 59: none
noncomputable abbrev fd_c59 : List Instr := []
noncomputable abbrev fd_o59 : List (Instr × Nat) := []
abbrev fd_p59 : List Nat := []
-- 60: none
noncomputable abbrev fd_c60 : List Instr := []
noncomputable abbrev fd_o60 : List (Instr × Nat) := []
abbrev fd_p60 : List Nat := []
-- 61: none
noncomputable abbrev fd_c61 : List Instr := []
noncomputable abbrev fd_o61 : List (Instr × Nat) := []
abbrev fd_p61 : List Nat := []
-- 62: none
noncomputable abbrev fd_c62 : List Instr := []
noncomputable abbrev fd_o62 : List (Instr × Nat) := []
abbrev fd_p62 : List Nat := []
-- 63: none
noncomputable abbrev fd_c63 : List Instr := []
noncomputable abbrev fd_o63 : List (Instr × Nat) := []
abbrev fd_p63 : List Nat := []
-- 64: none
noncomputable abbrev fd_c64 : List Instr := []
noncomputable abbrev fd_o64 : List (Instr × Nat) := []
abbrev fd_p64 : List Nat := []
-- 65: none
noncomputable abbrev fd_c65 : List Instr := []
noncomputable abbrev fd_o65 : List (Instr × Nat) := []
abbrev fd_p65 : List Nat := []
-- 66: none
noncomputable abbrev fd_c66 : List Instr := []
noncomputable abbrev fd_o66 : List (Instr × Nat) := []
abbrev fd_p66 : List Nat := []
-- 67: none
noncomputable abbrev fd_c67 : List Instr := []
noncomputable abbrev fd_o67 : List (Instr × Nat) := []
abbrev fd_p67 : List Nat := []
-- 68: none
noncomputable abbrev fd_c68 : List Instr := []
noncomputable abbrev fd_o68 : List (Instr × Nat) := []
abbrev fd_p68 : List Nat := []
-- 69: none
noncomputable abbrev fd_c69 : List Instr := []
noncomputable abbrev fd_o69 : List (Instr × Nat) := []
abbrev fd_p69 : List Nat := []
-- 70: none
noncomputable abbrev fd_c70 : List Instr := []
noncomputable abbrev fd_o70 : List (Instr × Nat) := []
abbrev fd_p70 : List Nat := []
-- 71: FoldedStrips$Pad.length()I
noncomputable abbrev fd_c71 : List Instr := [.aload 0, .invokeinterface 3 1, .ireturn]
noncomputable abbrev fd_o71 : List (Instr × Nat) := [(.aload_n 0, 1), (.getfield 15, 3), (.ireturn, 1)]
abbrev fd_p71 : List Nat := [0, 1, 4, 5]
-- 72: none
noncomputable abbrev fd_c72 : List Instr := []
noncomputable abbrev fd_o72 : List (Instr × Nat) := []
abbrev fd_p72 : List Nat := []
-- 73: none
noncomputable abbrev fd_c73 : List Instr := []
noncomputable abbrev fd_o73 : List (Instr × Nat) := []
abbrev fd_p73 : List Nat := []
-- 74: FoldedStrips$Slots.keep(ILFoldedStrips$Strip;)V
noncomputable abbrev fd_c74 : List Instr := [.iload 1, .invokestatic 36, .ifCond .eq 19, .aload 0, .invokeinterface 4 0, .iload 1, .aaload, .ifnull 19, .aload 0, .invokeinterface 4 0, .iload 1, .aaload, .aload 2, .invokevirtual 77, .aload 0, .invokeinterface 4 1, .iload 1, .sipush 1, .bastore, .return_]
noncomputable abbrev fd_o74 : List (Instr × Nat) := [(.iload_n 1, 1), (.invokestatic 22, 3), (.ifCond .eq 29, 3), (.aload_n 0, 1), (.getfield 11, 3), (.iload_n 1, 1), (.aaload, 1), (.ifnull 20, 3), (.aload_n 0, 1), (.getfield 11, 3), (.iload_n 1, 1), (.aaload, 1), (.aload_n 2, 1), (.invokevirtual 26, 3), (.aload_n 0, 1), (.getfield 17, 3), (.iload_n 1, 1), (.iconst 1, 1), (.bastore, 1), (.return_, 1)]
abbrev fd_p74 : List Nat := [0, 1, 4, 7, 8, 11, 12, 13, 16, 17, 20, 21, 22, 23, 26, 27, 30, 31, 32, 33, 34]
-- 75: FoldedStrips$Slots.isKept(I)Z
noncomputable abbrev fd_c75 : List Instr := [.iload 1, .invokestatic 36, .ifCond .eq 15, .aload 0, .invokeinterface 4 1, .iload 1, .baload, .ifCond .eq 15, .aload 0, .invokeinterface 4 0, .iload 1, .aaload, .ifnull 15, .sipush 1, .goto 16, .sipush 0, .ireturn]
noncomputable abbrev fd_o75 : List (Instr × Nat) := [(.iload_n 1, 1), (.invokestatic 22, 3), (.ifCond .eq 25, 3), (.aload_n 0, 1), (.getfield 17, 3), (.iload_n 1, 1), (.baload, 1), (.ifCond .eq 16, 3), (.aload_n 0, 1), (.getfield 11, 3), (.iload_n 1, 1), (.aaload, 1), (.ifnull 7, 3), (.iconst 1, 1), (.goto 4, 3), (.iconst 0, 1), (.ireturn, 1)]
abbrev fd_p75 : List Nat := [0, 1, 4, 7, 8, 11, 12, 13, 16, 17, 20, 21, 22, 25, 26, 29, 30, 31]
-- 76: FoldedStrips$Slots.fetch(ILFoldedStrips$Strip;)V
noncomputable abbrev fd_c76 : List Instr := [.aload 0, .iload 1, .invokevirtual 75, .ifCond .eq 10, .aload 2, .aload 0, .invokeinterface 4 0, .iload 1, .aaload, .invokevirtual 77, .return_]
noncomputable abbrev fd_o76 : List (Instr × Nat) := [(.aload_n 0, 1), (.iload_n 1, 1), (.invokevirtual 30, 3), (.ifCond .eq 13, 3), (.aload_n 2, 1), (.aload_n 0, 1), (.getfield 11, 3), (.iload_n 1, 1), (.aaload, 1), (.invokevirtual 26, 3), (.return_, 1)]
abbrev fd_p76 : List Nat := [0, 1, 2, 5, 8, 9, 10, 13, 14, 15, 18, 19]
-- 77: FoldedStrips$Strip.copyFrom(LFoldedStrips$Strip;)V
noncomputable abbrev fd_c77 : List Instr := [.aload 1, .invokeinterface 5 0, .sipush 0, .aload 0, .invokeinterface 5 0, .sipush 0, .sipush 144, .nop, .aload 1, .invokeinterface 5 1, .sipush 0, .aload 0, .invokeinterface 5 1, .sipush 0, .sipush 6, .nop, .return_]
noncomputable abbrev fd_o77 : List (Instr × Nat) := [(.aload_n 1, 1), (.getfield 9, 3), (.iconst 0, 1), (.aload_n 0, 1), (.getfield 9, 3), (.iconst 0, 1), (.sipush 144, 3), (.invokestatic 21, 3), (.aload_n 1, 1), (.getfield 15, 3), (.iconst 0, 1), (.aload_n 0, 1), (.getfield 15, 3), (.iconst 0, 1), (.bipush 6, 2), (.invokestatic 21, 3), (.return_, 1)]
abbrev fd_p77 : List Nat := [0, 1, 4, 5, 6, 9, 10, 13, 16, 17, 20, 21, 22, 25, 26, 28, 31, 32]
-- 78: FoldedStrips$Strip.erase(I)V
noncomputable abbrev fd_c78 : List Instr := [.iload 1, .invokestatic 1, .ifCond .ne 4, .return_, .sipush 0, .istore 2, .iload 2, .sipush 24, .if_icmp .ge 18, .aload 0, .invokeinterface 5 0, .iload 1, .iload 2, .invokestatic 3, .sipush (-1), .iastore, .iinc 2 1, .goto 6, .return_]
noncomputable abbrev fd_o78 : List (Instr × Nat) := [(.iload_n 1, 1), (.invokestatic 48, 3), (.ifCond .ne 4, 3), (.return_, 1), (.iconst 0, 1), (.istore_n 2, 1), (.iload_n 2, 1), (.bipush 24, 2), (.if_icmp .ge 20, 3), (.aload_n 0, 1), (.getfield 9, 3), (.iload_n 1, 1), (.iload_n 2, 1), (.invokestatic 38, 3), (.iconst (-1), 1), (.iastore, 1), (.iinc 2 1, 3), (.goto (-20), 3), (.return_, 1)]
abbrev fd_p78 : List Nat := [0, 1, 4, 7, 8, 9, 10, 11, 13, 16, 17, 20, 21, 22, 25, 26, 27, 30, 33, 34]
-- 79: none
noncomputable abbrev fd_c79 : List Instr := []
noncomputable abbrev fd_o79 : List (Instr × Nat) := []
abbrev fd_p79 : List Nat := []
-- 80: FoldedStrips$Strip.link(III)V
noncomputable abbrev fd_c80 : List Instr := [.iload 1, .invokestatic 1, .ifCond .eq 23, .iload 2, .invokestatic 4, .ifCond .eq 23, .iload 3, .invokestatic 4, .ifCond .eq 23, .aload 0, .invokeinterface 5 0, .iload 1, .iload 2, .invokestatic 3, .iload 3, .iastore, .aload 0, .invokeinterface 5 0, .iload 1, .iload 3, .invokestatic 3, .iload 2, .iastore, .return_]
noncomputable abbrev fd_o80 : List (Instr × Nat) := [(.iload_n 1, 1), (.invokestatic 48, 3), (.ifCond .eq 39, 3), (.iload_n 2, 1), (.invokestatic 51, 3), (.ifCond .eq 32, 3), (.iload_n 3, 1), (.invokestatic 51, 3), (.ifCond .eq 25, 3), (.aload_n 0, 1), (.getfield 9, 3), (.iload_n 1, 1), (.iload_n 2, 1), (.invokestatic 38, 3), (.iload_n 3, 1), (.iastore, 1), (.aload_n 0, 1), (.getfield 9, 3), (.iload_n 1, 1), (.iload_n 3, 1), (.invokestatic 38, 3), (.iload_n 2, 1), (.iastore, 1), (.return_, 1)]
abbrev fd_p80 : List Nat := [0, 1, 4, 7, 8, 11, 14, 15, 18, 21, 22, 25, 26, 27, 30, 31, 32, 33, 36, 37, 38, 41, 42, 43, 44]
-- 81: FoldedStrips$Strip.strokesIn(I)I
noncomputable abbrev fd_c81 : List Instr := [.aload 0, .iload 1, .invokestatic 5, .invokevirtual 82, .invokestatic 182, .aload 0, .iload 1, .invokestatic 7, .invokevirtual 82, .invokestatic 182, .iadd, .istore 2, .iload 2, .sipush 2, .idiv, .ireturn]
noncomputable abbrev fd_o81 : List (Instr × Nat) := [(.aload_n 0, 1), (.iload_n 1, 1), (.invokestatic 54, 3), (.invokevirtual 57, 3), (.invokestatic 80, 3), (.aload_n 0, 1), (.iload_n 1, 1), (.invokestatic 60, 3), (.invokevirtual 57, 3), (.invokestatic 80, 3), (.iadd, 1), (.istore_n 2, 1), (.iload_n 2, 1), (.iconst 2, 1), (.idiv, 1), (.ireturn, 1)]
abbrev fd_p81 : List Nat := [0, 1, 2, 5, 8, 11, 12, 13, 16, 19, 22, 23, 24, 25, 26, 27, 28]
-- 82: FoldedStrips$Strip.edgeSet(I)I
noncomputable abbrev fd_c82 : List Instr := [.sipush 0, .istore 2, .sipush 0, .istore 3, .iload 3, .sipush 12, .if_icmp .ge 23, .aload 0, .iload 1, .sipush 12, .imul, .iload 3, .iadd, .invokevirtual 83, .ifCond .eq 21, .iload 2, .sipush 1, .iload 3, .ishl, .ior, .istore 2, .iinc 3 1, .goto 4, .iload 2, .ireturn]
noncomputable abbrev fd_o82 : List (Instr × Nat) := [(.iconst 0, 1), (.istore_n 2, 1), (.iconst 0, 1), (.istore_n 3, 1), (.iload_n 3, 1), (.bipush 12, 2), (.if_icmp .ge 28, 3), (.aload_n 0, 1), (.iload_n 1, 1), (.bipush 12, 2), (.imul, 1), (.iload_n 3, 1), (.iadd, 1), (.invokevirtual 42, 3), (.ifCond .eq 9, 3), (.iload_n 2, 1), (.iconst 1, 1), (.iload_n 3, 1), (.ishl, 1), (.ior, 1), (.istore_n 2, 1), (.iinc 3 1, 3), (.goto (-28), 3), (.iload_n 2, 1), (.ireturn, 1)]
abbrev fd_p82 : List Nat := [0, 1, 2, 3, 4, 5, 7, 10, 11, 12, 14, 15, 16, 17, 20, 23, 24, 25, 26, 27, 28, 29, 32, 35, 36, 37]
-- 83: FoldedStrips$Strip.hasStroke(I)Z
noncomputable abbrev fd_c83 : List Instr := [.iload 1, .invokestatic 6, .ifCond .eq 11, .aload 0, .invokeinterface 5 0, .iload 1, .iaload, .sipush (-1), .if_icmp .eq 11, .sipush 1, .goto 12, .sipush 0, .ireturn]
noncomputable abbrev fd_o83 : List (Instr × Nat) := [(.iload_n 1, 1), (.invokestatic 27, 3), (.ifCond .eq 17, 3), (.aload_n 0, 1), (.getfield 9, 3), (.iload_n 1, 1), (.iaload, 1), (.iconst (-1), 1), (.if_icmp .eq 7, 3), (.iconst 1, 1), (.goto 4, 3), (.iconst 0, 1), (.ireturn, 1)]
abbrev fd_p83 : List Nat := [0, 1, 4, 7, 8, 11, 12, 13, 14, 17, 18, 21, 22, 23]
-- 84: FoldedStrips$Strip.otherEnd(I)I
noncomputable abbrev fd_c84 : List Instr := [.iload 1, .invokestatic 6, .ifCond .eq 8, .aload 0, .invokeinterface 5 0, .iload 1, .iaload, .goto 9, .sipush (-1), .ireturn]
noncomputable abbrev fd_o84 : List (Instr × Nat) := [(.iload_n 1, 1), (.invokestatic 27, 3), (.ifCond .eq 12, 3), (.aload_n 0, 1), (.getfield 9, 3), (.iload_n 1, 1), (.iaload, 1), (.goto 4, 3), (.iconst (-1), 1), (.ireturn, 1)]
abbrev fd_p84 : List Nat := [0, 1, 4, 7, 8, 11, 12, 13, 16, 17, 18]
-- 85: FoldedStrips$Strip.unlink(III)V
noncomputable abbrev fd_c85 : List Instr := [.iload 1, .invokestatic 1, .ifCond .eq 23, .iload 2, .invokestatic 4, .ifCond .eq 23, .iload 3, .invokestatic 4, .ifCond .eq 23, .aload 0, .invokeinterface 5 0, .iload 1, .iload 2, .invokestatic 3, .sipush (-1), .iastore, .aload 0, .invokeinterface 5 0, .iload 1, .iload 3, .invokestatic 3, .sipush (-1), .iastore, .return_]
noncomputable abbrev fd_o85 : List (Instr × Nat) := [(.iload_n 1, 1), (.invokestatic 48, 3), (.ifCond .eq 39, 3), (.iload_n 2, 1), (.invokestatic 51, 3), (.ifCond .eq 32, 3), (.iload_n 3, 1), (.invokestatic 51, 3), (.ifCond .eq 25, 3), (.aload_n 0, 1), (.getfield 9, 3), (.iload_n 1, 1), (.iload_n 2, 1), (.invokestatic 38, 3), (.iconst (-1), 1), (.iastore, 1), (.aload_n 0, 1), (.getfield 9, 3), (.iload_n 1, 1), (.iload_n 3, 1), (.invokestatic 38, 3), (.iconst (-1), 1), (.iastore, 1), (.return_, 1)]
abbrev fd_p85 : List Nat := [0, 1, 4, 7, 8, 11, 14, 15, 18, 21, 22, 25, 26, 27, 30, 31, 32, 33, 36, 37, 38, 41, 42, 43, 44]
-- 86: FoldedStrips$Strip.canShift(II)Z
noncomputable abbrev fd_c86 : List Instr := [.aload 0, .iload 1, .invokestatic 5, .invokevirtual 82, .aload 0, .iload 1, .invokestatic 7, .invokevirtual 82, .ior, .istore 3, .sipush 0, .istore 4, .iload 4, .sipush 12, .if_icmp .ge 40, .iload 4, .iload 2, .iadd, .ifCond .lt 24, .iload 4, .iload 2, .iadd, .sipush 12, .if_icmp .lt 26, .sipush 1, .goto 27, .sipush 0, .istore 5, .iload 5, .ifCond .eq 38, .iload 3, .sipush 1, .iload 4, .ishl, .iand, .ifCond .eq 38, .sipush 0, .ireturn, .iinc 4 1, .goto 12, .sipush 1, .ireturn]
noncomputable abbrev fd_o86 : List (Instr × Nat) := [(.aload_n 0, 1), (.iload_n 1, 1), (.invokestatic 54, 3), (.invokevirtual 57, 3), (.aload_n 0, 1), (.iload_n 1, 1), (.invokestatic 60, 3), (.invokevirtual 57, 3), (.ior, 1), (.istore_n 3, 1), (.iconst 0, 1), (.istore 4, 2), (.iload 4, 2), (.bipush 12, 2), (.if_icmp .ge 48, 3), (.iload 4, 2), (.iload_n 2, 1), (.iadd, 1), (.ifCond .lt 12, 3), (.iload 4, 2), (.iload_n 2, 1), (.iadd, 1), (.bipush 12, 2), (.if_icmp .lt 7, 3), (.iconst 1, 1), (.goto 4, 3), (.iconst 0, 1), (.istore 5, 2), (.iload 5, 2), (.ifCond .eq 14, 3), (.iload_n 3, 1), (.iconst 1, 1), (.iload 4, 2), (.ishl, 1), (.iand, 1), (.ifCond .eq 5, 3), (.iconst 0, 1), (.ireturn, 1), (.iinc 4 1, 3), (.goto (-49), 3), (.iconst 1, 1), (.ireturn, 1)]
abbrev fd_p86 : List Nat := [0, 1, 2, 5, 8, 9, 10, 13, 16, 17, 18, 19, 21, 23, 25, 28, 30, 31, 32, 35, 37, 38, 39, 41, 44, 45, 48, 49, 51, 53, 56, 57, 58, 60, 61, 62, 65, 66, 67, 70, 73, 74, 75]
-- 87: FoldedStrips$Strip.shift(II)V
noncomputable abbrev fd_c87 : List Instr := [.aload 0, .iload 1, .invokevirtual 88, .sipush 0, .istore 3, .iload 3, .sipush 24, .if_icmp .ge 28, .aload 0, .invokeinterface 5 2, .iload 3, .iaload, .sipush (-1), .if_icmp .eq 26, .aload 0, .iload 1, .iload 3, .iload 2, .iadd, .aload 0, .invokeinterface 5 2, .iload 3, .iaload, .iload 2, .iadd, .invokevirtual 80, .iinc 3 1, .goto 5, .return_]
noncomputable abbrev fd_o87 : List (Instr × Nat) := [(.aload_n 0, 1), (.iload_n 1, 1), (.invokevirtual 63, 3), (.iconst 0, 1), (.istore_n 3, 1), (.iload_n 3, 1), (.bipush 24, 2), (.if_icmp .ge 35, 3), (.aload_n 0, 1), (.getfield 18, 3), (.iload_n 3, 1), (.iaload, 1), (.iconst (-1), 1), (.if_icmp .eq 19, 3), (.aload_n 0, 1), (.iload_n 1, 1), (.iload_n 3, 1), (.iload_n 2, 1), (.iadd, 1), (.aload_n 0, 1), (.getfield 18, 3), (.iload_n 3, 1), (.iaload, 1), (.iload_n 2, 1), (.iadd, 1), (.invokevirtual 67, 3), (.iinc 3 1, 3), (.goto (-35), 3), (.return_, 1)]
abbrev fd_p87 : List Nat := [0, 1, 2, 5, 6, 7, 8, 10, 13, 14, 17, 18, 19, 20, 23, 24, 25, 26, 27, 28, 29, 32, 33, 34, 35, 36, 39, 42, 45, 46]
-- 88: FoldedStrips$Strip.liftOff(I)V
noncomputable abbrev fd_c88 : List Instr := [.sipush 0, .istore 2, .iload 2, .sipush 24, .if_icmp .ge 16, .aload 0, .invokeinterface 5 2, .iload 2, .aload 0, .iload 1, .iload 2, .invokestatic 3, .invokevirtual 84, .iastore, .iinc 2 1, .goto 2, .aload 0, .iload 1, .invokevirtual 78, .return_]
noncomputable abbrev fd_o88 : List (Instr × Nat) := [(.iconst 0, 1), (.istore_n 2, 1), (.iload_n 2, 1), (.bipush 24, 2), (.if_icmp .ge 24, 3), (.aload_n 0, 1), (.getfield 18, 3), (.iload_n 2, 1), (.aload_n 0, 1), (.iload_n 1, 1), (.iload_n 2, 1), (.invokestatic 38, 3), (.invokevirtual 31, 3), (.iastore, 1), (.iinc 2 1, 3), (.goto (-24), 3), (.aload_n 0, 1), (.iload_n 1, 1), (.invokevirtual 74, 3), (.return_, 1)]
abbrev fd_p88 : List Nat := [0, 1, 2, 3, 5, 8, 9, 12, 13, 14, 15, 16, 19, 22, 23, 26, 29, 30, 31, 34, 35]
-- 89: FoldedStrips$Strip.looseEnds()I
noncomputable abbrev fd_c89 : List Instr := [.sipush 0, .istore 1, .sipush 0, .istore 2, .iload 2, .sipush 5, .if_icmp .ge 20, .iload 1, .aload 0, .iload 2, .invokevirtual 90, .aload 0, .iload 2, .invokevirtual 91, .ixor, .invokestatic 182, .iadd, .istore 1, .iinc 2 1, .goto 4, .iload 1, .ireturn]
noncomputable abbrev fd_o89 : List (Instr × Nat) := [(.iconst 0, 1), (.istore_n 1, 1), (.iconst 0, 1), (.istore_n 2, 1), (.iload_n 2, 1), (.iconst 5, 1), (.if_icmp .ge 26, 3), (.iload_n 1, 1), (.aload_n 0, 1), (.iload_n 2, 1), (.invokevirtual 94, 3), (.aload_n 0, 1), (.iload_n 2, 1), (.invokevirtual 97, 3), (.ixor, 1), (.invokestatic 80, 3), (.iadd, 1), (.istore_n 1, 1), (.iinc 2 1, 3), (.goto (-25), 3), (.iload_n 1, 1), (.ireturn, 1)]
abbrev fd_p89 : List Nat := [0, 1, 2, 3, 4, 5, 6, 9, 10, 11, 12, 15, 16, 17, 20, 21, 24, 25, 26, 29, 32, 33, 34]
-- 90: FoldedStrips$Strip.marksAt(I)I
noncomputable abbrev fd_c90 : List Instr := [.aload 0, .iload 1, .invokestatic 7, .invokevirtual 82, .ireturn]
noncomputable abbrev fd_o90 : List (Instr × Nat) := [(.aload_n 0, 1), (.iload_n 1, 1), (.invokestatic 60, 3), (.invokevirtual 57, 3), (.ireturn, 1)]
abbrev fd_p90 : List Nat := [0, 1, 2, 5, 8, 9]
-- 91: FoldedStrips$Strip.startsAt(I)I
noncomputable abbrev fd_c91 : List Instr := [.aload 0, .iload 1, .sipush 1, .iadd, .invokestatic 5, .invokevirtual 82, .ireturn]
noncomputable abbrev fd_o91 : List (Instr × Nat) := [(.aload_n 0, 1), (.iload_n 1, 1), (.iconst 1, 1), (.iadd, 1), (.invokestatic 54, 3), (.invokevirtual 57, 3), (.ireturn, 1)]
abbrev fd_p91 : List Nat := [0, 1, 2, 3, 4, 7, 10, 11]
-- 92: FoldedStrips$Strip.flip(II)V
noncomputable abbrev fd_c92 : List Instr := [.aload 0, .iload 1, .invokevirtual 88, .sipush 0, .istore 3, .iload 3, .sipush 24, .if_icmp .ge 28, .aload 0, .invokeinterface 5 2, .iload 3, .iaload, .sipush (-1), .if_icmp .eq 26, .aload 0, .iload 1, .iload 3, .iload 2, .invokestatic 93, .aload 0, .invokeinterface 5 2, .iload 3, .iaload, .iload 2, .invokestatic 93, .invokevirtual 80, .iinc 3 1, .goto 5, .return_]
noncomputable abbrev fd_o92 : List (Instr × Nat) := [(.aload_n 0, 1), (.iload_n 1, 1), (.invokevirtual 63, 3), (.iconst 0, 1), (.istore_n 3, 1), (.iload_n 3, 1), (.bipush 24, 2), (.if_icmp .ge 39, 3), (.aload_n 0, 1), (.getfield 18, 3), (.iload_n 3, 1), (.iaload, 1), (.iconst (-1), 1), (.if_icmp .eq 23, 3), (.aload_n 0, 1), (.iload_n 1, 1), (.iload_n 3, 1), (.iload_n 2, 1), (.invokestatic 71, 3), (.aload_n 0, 1), (.getfield 18, 3), (.iload_n 3, 1), (.iaload, 1), (.iload_n 2, 1), (.invokestatic 71, 3), (.invokevirtual 67, 3), (.iinc 3 1, 3), (.goto (-39), 3), (.return_, 1)]
abbrev fd_p92 : List Nat := [0, 1, 2, 5, 6, 7, 8, 10, 13, 14, 17, 18, 19, 20, 23, 24, 25, 26, 27, 30, 31, 34, 35, 36, 37, 40, 43, 46, 49, 50]
-- 93: FoldedStrips$Strip.turnedEnd(II)I
noncomputable abbrev fd_c93 : List Instr := [.iload 0, .sipush 12, .if_icmp .ge 5, .sipush 1, .goto 6, .sipush 0, .istore 2, .iload 2, .ifCond .eq 11, .iload 0, .goto 14, .iload 0, .sipush 12, .isub, .istore 3, .iload 1, .sipush 1, .if_icmp .eq 22, .sipush 11, .iload 3, .isub, .istore 3, .iload 1, .ifCond .eq 30, .iload 2, .ifCond .ne 28, .sipush 1, .goto 29, .sipush 0, .istore 2, .iload 2, .ifCond .eq 34, .iload 3, .goto 37, .sipush 12, .iload 3, .iadd, .ireturn]
noncomputable abbrev fd_o93 : List (Instr × Nat) := [(.iload_n 0, 1), (.bipush 12, 2), (.if_icmp .ge 7, 3), (.iconst 1, 1), (.goto 4, 3), (.iconst 0, 1), (.istore_n 2, 1), (.iload_n 2, 1), (.ifCond .eq 7, 3), (.iload_n 0, 1), (.goto 7, 3), (.iload_n 0, 1), (.bipush 12, 2), (.isub, 1), (.istore_n 3, 1), (.iload_n 1, 1), (.iconst 1, 1), (.if_icmp .eq 8, 3), (.bipush 11, 2), (.iload_n 3, 1), (.isub, 1), (.istore_n 3, 1), (.iload_n 1, 1), (.ifCond .eq 13, 3), (.iload_n 2, 1), (.ifCond .ne 7, 3), (.iconst 1, 1), (.goto 4, 3), (.iconst 0, 1), (.istore_n 2, 1), (.iload_n 2, 1), (.ifCond .eq 7, 3), (.iload_n 3, 1), (.goto 7, 3), (.bipush 12, 2), (.iload_n 3, 1), (.iadd, 1), (.ireturn, 1)]
abbrev fd_p93 : List Nat := [0, 1, 3, 6, 7, 10, 11, 12, 13, 16, 17, 20, 21, 23, 24, 25, 26, 27, 30, 32, 33, 34, 35, 36, 39, 40, 43, 44, 47, 48, 49, 50, 53, 54, 57, 59, 60, 61, 62]
-- 94: FoldedStrips$Strip.swap(II)V
noncomputable abbrev fd_c94 : List Instr := [.iload 1, .invokestatic 1, .ifCond .eq 6, .iload 2, .invokestatic 1, .ifCond .ne 7, .return_, .sipush 0, .istore 3, .iload 3, .sipush 24, .if_icmp .ge 40, .aload 0, .invokeinterface 5 0, .iload 1, .iload 3, .invokestatic 3, .iaload, .istore 4, .aload 0, .invokeinterface 5 0, .iload 1, .iload 3, .invokestatic 3, .aload 0, .invokeinterface 5 0, .iload 2, .iload 3, .invokestatic 3, .iaload, .iastore, .aload 0, .invokeinterface 5 0, .iload 2, .iload 3, .invokestatic 3, .iload 4, .iastore, .iinc 3 1, .goto 9, .aload 0, .invokeinterface 5 1, .iload 1, .iaload, .istore 3, .aload 0, .invokeinterface 5 1, .iload 1, .aload 0, .invokeinterface 5 1, .iload 2, .iaload, .iastore, .aload 0, .invokeinterface 5 1, .iload 2, .iload 3, .iastore, .return_]
noncomputable abbrev fd_o94 : List (Instr × Nat) := [(.iload_n 1, 1), (.invokestatic 48, 3), (.ifCond .eq 10, 3), (.iload_n 2, 1), (.invokestatic 48, 3), (.ifCond .ne 4, 3), (.return_, 1), (.iconst 0, 1), (.istore_n 3, 1), (.iload_n 3, 1), (.bipush 24, 2), (.if_icmp .ge 53, 3), (.aload_n 0, 1), (.getfield 9, 3), (.iload_n 1, 1), (.iload_n 3, 1), (.invokestatic 38, 3), (.iaload, 1), (.istore 4, 2), (.aload_n 0, 1), (.getfield 9, 3), (.iload_n 1, 1), (.iload_n 3, 1), (.invokestatic 38, 3), (.aload_n 0, 1), (.getfield 9, 3), (.iload_n 2, 1), (.iload_n 3, 1), (.invokestatic 38, 3), (.iaload, 1), (.iastore, 1), (.aload_n 0, 1), (.getfield 9, 3), (.iload_n 2, 1), (.iload_n 3, 1), (.invokestatic 38, 3), (.iload 4, 2), (.iastore, 1), (.iinc 3 1, 3), (.goto (-53), 3), (.aload_n 0, 1), (.getfield 15, 3), (.iload_n 1, 1), (.iaload, 1), (.istore_n 3, 1), (.aload_n 0, 1), (.getfield 15, 3), (.iload_n 1, 1), (.aload_n 0, 1), (.getfield 15, 3), (.iload_n 2, 1), (.iaload, 1), (.iastore, 1), (.aload_n 0, 1), (.getfield 15, 3), (.iload_n 2, 1), (.iload_n 3, 1), (.iastore, 1), (.return_, 1)]
abbrev fd_p94 : List Nat := [0, 1, 4, 7, 8, 11, 14, 15, 16, 17, 18, 20, 23, 24, 27, 28, 29, 32, 33, 35, 36, 39, 40, 41, 44, 45, 48, 49, 50, 53, 54, 55, 56, 59, 60, 61, 64, 66, 67, 70, 73, 74, 77, 78, 79, 80, 81, 84, 85, 86, 89, 90, 91, 92, 93, 96, 97, 98, 99, 100]
-- 95: FoldedStrips$Strip.continueMarks(I)I
noncomputable abbrev fd_c95 : List Instr := [.aload 0, .iload 1, .sipush 1, .isub, .invokevirtual 96, .aload 0, .iload 1, .invokestatic 7, .invokevirtual 82, .sipush (-1), .ixor, .iand, .istore 2, .sipush 0, .istore 3, .iload 3, .sipush 12, .if_icmp .ge 33, .iload 2, .sipush 1, .iload 3, .ishl, .iand, .ifCond .eq 31, .aload 0, .iload 1, .iload 3, .sipush 12, .iload 3, .iadd, .invokevirtual 80, .iinc 3 1, .goto 15, .iload 2, .invokestatic 182, .ireturn]
noncomputable abbrev fd_o95 : List (Instr × Nat) := [(.aload_n 0, 1), (.iload_n 1, 1), (.iconst 1, 1), (.isub, 1), (.invokevirtual 77, 3), (.aload_n 0, 1), (.iload_n 1, 1), (.invokestatic 60, 3), (.invokevirtual 57, 3), (.iconst (-1), 1), (.ixor, 1), (.iand, 1), (.istore_n 2, 1), (.iconst 0, 1), (.istore_n 3, 1), (.iload_n 3, 1), (.bipush 12, 2), (.if_icmp .ge 27, 3), (.iload_n 2, 1), (.iconst 1, 1), (.iload_n 3, 1), (.ishl, 1), (.iand, 1), (.ifCond .eq 13, 3), (.aload_n 0, 1), (.iload_n 1, 1), (.iload_n 3, 1), (.bipush 12, 2), (.iload_n 3, 1), (.iadd, 1), (.invokevirtual 67, 3), (.iinc 3 1, 3), (.goto (-27), 3), (.iload_n 2, 1), (.invokestatic 80, 3), (.ireturn, 1)]
abbrev fd_p95 : List Nat := [0, 1, 2, 3, 4, 7, 8, 9, 12, 15, 16, 17, 18, 19, 20, 21, 22, 24, 27, 28, 29, 30, 31, 32, 35, 36, 37, 38, 40, 41, 42, 45, 48, 51, 52, 55, 56]
-- 96: FoldedStrips$Strip.missedMarksAt(I)I
noncomputable abbrev fd_c96 : List Instr := [.aload 0, .iload 1, .invokevirtual 90, .aload 0, .iload 1, .invokevirtual 91, .sipush (-1), .ixor, .iand, .ireturn]
noncomputable abbrev fd_o96 : List (Instr × Nat) := [(.aload_n 0, 1), (.iload_n 1, 1), (.invokevirtual 94, 3), (.aload_n 0, 1), (.iload_n 1, 1), (.invokevirtual 97, 3), (.iconst (-1), 1), (.ixor, 1), (.iand, 1), (.ireturn, 1)]
abbrev fd_p96 : List Nat := [0, 1, 2, 5, 6, 7, 10, 11, 12, 13, 14]
-- 97: FoldedStrips$Strip.howEndIs(I)I
noncomputable abbrev fd_c97 : List Instr := [.aload 0, .iload 1, .invokevirtual 83, .ifCond .ne 6, .sipush 0, .ireturn, .iload 1, .invokestatic 17, .istore 2, .iload 2, .sipush (-1), .if_icmp .ne 14, .sipush 3, .ireturn, .aload 0, .iload 2, .invokevirtual 83, .ifCond .eq 20, .sipush 1, .goto 21, .sipush 2, .ireturn]
noncomputable abbrev fd_o97 : List (Instr × Nat) := [(.aload_n 0, 1), (.iload_n 1, 1), (.invokevirtual 42, 3), (.ifCond .ne 5, 3), (.iconst 0, 1), (.ireturn, 1), (.iload_n 1, 1), (.invokestatic 45, 3), (.istore_n 2, 1), (.iload_n 2, 1), (.iconst (-1), 1), (.if_icmp .ne 5, 3), (.iconst 3, 1), (.ireturn, 1), (.aload_n 0, 1), (.iload_n 2, 1), (.invokevirtual 42, 3), (.ifCond .eq 7, 3), (.iconst 1, 1), (.goto 4, 3), (.iconst 2, 1), (.ireturn, 1)]
abbrev fd_p97 : List Nat := [0, 1, 2, 5, 8, 9, 10, 11, 14, 15, 16, 17, 20, 21, 22, 23, 24, 27, 30, 31, 34, 35, 36]
-- 98: FoldedStrips$Strip.otherPlace(I)I
noncomputable abbrev fd_c98 : List Instr := [.aload 0, .iload 1, .invokevirtual 84, .istore 2, .iload 2, .sipush (-1), .if_icmp .ne 9, .sipush (-1), .goto 13, .iload 1, .invokestatic 18, .iload 2, .invokestatic 3, .ireturn]
noncomputable abbrev fd_o98 : List (Instr × Nat) := [(.aload_n 0, 1), (.iload_n 1, 1), (.invokevirtual 31, 3), (.istore_n 2, 1), (.iload_n 2, 1), (.iconst (-1), 1), (.if_icmp .ne 7, 3), (.iconst (-1), 1), (.goto 11, 3), (.iload_n 1, 1), (.invokestatic 35, 3), (.iload_n 2, 1), (.invokestatic 38, 3), (.ireturn, 1)]
abbrev fd_p98 : List Nat := [0, 1, 2, 5, 6, 7, 8, 11, 12, 15, 16, 19, 20, 23, 24]
-- 99: FoldedStrips$Strip.handOf(I)I
noncomputable abbrev fd_c99 : List Instr := [.iload 1, .invokestatic 1, .ifCond .eq 8, .aload 0, .invokeinterface 5 1, .iload 1, .iaload, .goto 9, .sipush (-1), .ireturn]
noncomputable abbrev fd_o99 : List (Instr × Nat) := [(.iload_n 1, 1), (.invokestatic 48, 3), (.ifCond .eq 12, 3), (.aload_n 0, 1), (.getfield 15, 3), (.iload_n 1, 1), (.iaload, 1), (.goto 4, 3), (.iconst (-1), 1), (.ireturn, 1)]
abbrev fd_p99 : List Nat := [0, 1, 4, 7, 8, 11, 12, 13, 16, 17, 18]
-- 100: FoldedStrips$Strip.crossingsOf(I)I
noncomputable abbrev fd_c100 : List Instr := [.iload 1, .invokestatic 18, .istore 2, .iload 1, .sipush 24, .irem, .istore 3, .aload 0, .iload 1, .invokevirtual 84, .istore 4, .sipush 0, .istore 5, .sipush 0, .istore 6, .iload 6, .sipush 24, .if_icmp .ge 45, .aload 0, .iload 2, .iload 6, .invokestatic 3, .invokevirtual 84, .istore 7, .iload 6, .iload 7, .if_icmp .ge 29, .sipush 1, .goto 30, .sipush 0, .istore 8, .iload 8, .ifCond .eq 43, .iload 6, .iload 3, .iload 4, .invokestatic 101, .iload 7, .iload 3, .iload 4, .invokestatic 101, .if_icmp .eq 43, .iinc 5 1, .iinc 6 1, .goto 15, .iload 5, .ireturn]
noncomputable abbrev fd_o100 : List (Instr × Nat) := [(.iload_n 1, 1), (.invokestatic 35, 3), (.istore_n 2, 1), (.iload_n 1, 1), (.bipush 24, 2), (.irem, 1), (.istore_n 3, 1), (.aload_n 0, 1), (.iload_n 1, 1), (.invokevirtual 31, 3), (.istore 4, 2), (.iconst 0, 1), (.istore 5, 2), (.iconst 0, 1), (.istore 6, 2), (.iload 6, 2), (.bipush 24, 2), (.if_icmp .ge 62, 3), (.aload_n 0, 1), (.iload_n 2, 1), (.iload 6, 2), (.invokestatic 38, 3), (.invokevirtual 31, 3), (.istore 7, 2), (.iload 6, 2), (.iload 7, 2), (.if_icmp .ge 7, 3), (.iconst 1, 1), (.goto 4, 3), (.iconst 0, 1), (.istore 8, 2), (.iload 8, 2), (.ifCond .eq 25, 3), (.iload 6, 2), (.iload_n 3, 1), (.iload 4, 2), (.invokestatic 114, 3), (.iload 7, 2), (.iload_n 3, 1), (.iload 4, 2), (.invokestatic 114, 3), (.if_icmp .eq 6, 3), (.iinc 5 1, 3), (.iinc 6 1, 3), (.goto (-63), 3), (.iload 5, 2), (.ireturn, 1)]
abbrev fd_p100 : List Nat := [0, 1, 4, 5, 6, 8, 9, 10, 11, 12, 15, 17, 18, 20, 21, 23, 25, 27, 30, 31, 32, 34, 37, 40, 42, 44, 46, 49, 50, 53, 54, 56, 58, 61, 63, 64, 66, 69, 71, 72, 74, 77, 80, 83, 86, 89, 91, 92]
-- 101: FoldedStrips$Strip.isBetween(III)Z
noncomputable abbrev fd_c101 : List Instr := [.iload 0, .invokestatic 102, .istore 3, .iload 1, .invokestatic 102, .iload 2, .invokestatic 102, .pop2, .istore 4, .iload 1, .invokestatic 102, .iload 2, .invokestatic 102, .swap, .istore 5, .iload 4, .iload 3, .if_icmp .ge 23, .iload 3, .iload 5, .if_icmp .ge 23, .sipush 1, .goto 24, .sipush 0, .ireturn]
noncomputable abbrev fd_o101 : List (Instr × Nat) := [(.iload_n 0, 1), (.invokestatic 103, 3), (.istore_n 3, 1), (.iload_n 1, 1), (.invokestatic 103, 3), (.iload_n 2, 1), (.invokestatic 103, 3), (.invokestatic 106, 3), (.istore 4, 2), (.iload_n 1, 1), (.invokestatic 103, 3), (.iload_n 2, 1), (.invokestatic 103, 3), (.invokestatic 111, 3), (.istore 5, 2), (.iload 4, 2), (.iload_n 3, 1), (.if_icmp .ge 13, 3), (.iload_n 3, 1), (.iload 5, 2), (.if_icmp .ge 7, 3), (.iconst 1, 1), (.goto 4, 3), (.iconst 0, 1), (.ireturn, 1)]
abbrev fd_p101 : List Nat := [0, 1, 4, 5, 6, 9, 10, 13, 16, 18, 19, 22, 23, 26, 29, 31, 33, 34, 37, 38, 40, 43, 44, 47, 48, 49]
-- 102: FoldedStrips$Strip.aroundEdge(I)I
noncomputable abbrev fd_c102 : List Instr := [.iload 0, .sipush 12, .if_icmp .ge 5, .iload 0, .goto 10, .sipush 23, .iload 0, .sipush 12, .isub, .isub, .ireturn]
noncomputable abbrev fd_o102 : List (Instr × Nat) := [(.iload_n 0, 1), (.bipush 12, 2), (.if_icmp .ge 7, 3), (.iload_n 0, 1), (.goto 10, 3), (.bipush 23, 2), (.iload_n 0, 1), (.bipush 12, 2), (.isub, 1), (.isub, 1), (.ireturn, 1)]
abbrev fd_p102 : List Nat := [0, 1, 3, 6, 7, 10, 12, 13, 15, 16, 17, 18]
-- 103: FoldedStrips$Strip.crossingPairsIn(I)I
noncomputable abbrev fd_c103 : List Instr := [.sipush 0, .istore 2, .sipush 0, .istore 3, .iload 3, .sipush 24, .if_icmp .ge 24, .iload 3, .aload 0, .iload 1, .iload 3, .invokestatic 3, .invokevirtual 84, .if_icmp .ge 22, .iload 2, .aload 0, .iload 1, .iload 3, .invokestatic 3, .invokevirtual 100, .iadd, .istore 2, .iinc 3 1, .goto 4, .iload 2, .sipush 2, .idiv, .ireturn]
noncomputable abbrev fd_o103 : List (Instr × Nat) := [(.iconst 0, 1), (.istore_n 2, 1), (.iconst 0, 1), (.istore_n 3, 1), (.iload_n 3, 1), (.bipush 24, 2), (.if_icmp .ge 34, 3), (.iload_n 3, 1), (.aload_n 0, 1), (.iload_n 1, 1), (.iload_n 3, 1), (.invokestatic 38, 3), (.invokevirtual 31, 3), (.if_icmp .ge 15, 3), (.iload_n 2, 1), (.aload_n 0, 1), (.iload_n 1, 1), (.iload_n 3, 1), (.invokestatic 38, 3), (.invokevirtual 118, 3), (.iadd, 1), (.istore_n 2, 1), (.iinc 3 1, 3), (.goto (-34), 3), (.iload_n 2, 1), (.iconst 2, 1), (.idiv, 1), (.ireturn, 1)]
abbrev fd_p103 : List Nat := [0, 1, 2, 3, 4, 5, 7, 10, 11, 12, 13, 14, 17, 20, 23, 24, 25, 26, 27, 30, 33, 34, 35, 38, 41, 42, 43, 44, 45]
-- 104: FoldedStrips$Strip.looseEndsIn(I)I
noncomputable abbrev fd_c104 : List Instr := [.sipush 0, .istore 2, .sipush 0, .istore 3, .iload 3, .sipush 24, .if_icmp .ge 17, .aload 0, .iload 1, .iload 3, .invokestatic 3, .invokevirtual 97, .sipush 2, .if_icmp .ne 15, .iinc 2 1, .iinc 3 1, .goto 4, .iload 2, .ireturn]
noncomputable abbrev fd_o104 : List (Instr × Nat) := [(.iconst 0, 1), (.istore_n 2, 1), (.iconst 0, 1), (.istore_n 3, 1), (.iload_n 3, 1), (.bipush 24, 2), (.if_icmp .ge 25, 3), (.aload_n 0, 1), (.iload_n 1, 1), (.iload_n 3, 1), (.invokestatic 38, 3), (.invokevirtual 100, 3), (.iconst 2, 1), (.if_icmp .ne 6, 3), (.iinc 2 1, 3), (.iinc 3 1, 3), (.goto (-25), 3), (.iload_n 2, 1), (.ireturn, 1)]
abbrev fd_p104 : List Nat := [0, 1, 2, 3, 4, 5, 7, 10, 11, 12, 13, 16, 19, 20, 23, 26, 29, 32, 33, 34]
-- 105: FoldedStrips$Strip.strokesDown(I)I
noncomputable abbrev fd_c105 : List Instr := [.sipush 0, .istore 2, .sipush 0, .istore 3, .iload 3, .sipush 12, .if_icmp .ge 17, .aload 0, .iload 1, .iload 3, .invokestatic 3, .invokevirtual 84, .sipush 12, .if_icmp .lt 15, .iinc 2 1, .iinc 3 1, .goto 4, .iload 2, .ireturn]
noncomputable abbrev fd_o105 : List (Instr × Nat) := [(.iconst 0, 1), (.istore_n 2, 1), (.iconst 0, 1), (.istore_n 3, 1), (.iload_n 3, 1), (.bipush 12, 2), (.if_icmp .ge 26, 3), (.aload_n 0, 1), (.iload_n 1, 1), (.iload_n 3, 1), (.invokestatic 38, 3), (.invokevirtual 31, 3), (.bipush 12, 2), (.if_icmp .lt 6, 3), (.iinc 2 1, 3), (.iinc 3 1, 3), (.goto (-26), 3), (.iload_n 2, 1), (.ireturn, 1)]
abbrev fd_p105 : List Nat := [0, 1, 2, 3, 4, 5, 7, 10, 11, 12, 13, 16, 19, 21, 24, 27, 30, 33, 34, 35]
-- 106: FoldedStrips$Strip.unmarkedStartsAt(I)I
noncomputable abbrev fd_c106 : List Instr := [.aload 0, .iload 1, .invokevirtual 91, .aload 0, .iload 1, .invokevirtual 90, .sipush (-1), .ixor, .iand, .ireturn]
noncomputable abbrev fd_o106 : List (Instr × Nat) := [(.aload_n 0, 1), (.iload_n 1, 1), (.invokevirtual 97, 3), (.aload_n 0, 1), (.iload_n 1, 1), (.invokevirtual 94, 3), (.iconst (-1), 1), (.ixor, 1), (.iand, 1), (.ireturn, 1)]
abbrev fd_p106 : List Nat := [0, 1, 2, 5, 6, 7, 10, 11, 12, 13, 14]
-- 107: FoldedStrips$Strip.panelsOf(I)I
noncomputable abbrev fd_c107 : List Instr := [.sipush 0, .istore 2, .sipush 0, .istore 3, .iload 3, .sipush 6, .if_icmp .ge 21, .aload 0, .invokeinterface 5 1, .iload 3, .iaload, .iload 1, .if_icmp .ne 19, .iload 2, .sipush 1, .iload 3, .ishl, .ior, .istore 2, .iinc 3 1, .goto 4, .iload 2, .ireturn]
noncomputable abbrev fd_o107 : List (Instr × Nat) := [(.iconst 0, 1), (.istore_n 2, 1), (.iconst 0, 1), (.istore_n 3, 1), (.iload_n 3, 1), (.bipush 6, 2), (.if_icmp .ge 25, 3), (.aload_n 0, 1), (.getfield 15, 3), (.iload_n 3, 1), (.iaload, 1), (.iload_n 1, 1), (.if_icmp .ne 9, 3), (.iload_n 2, 1), (.iconst 1, 1), (.iload_n 3, 1), (.ishl, 1), (.ior, 1), (.istore_n 2, 1), (.iinc 3 1, 3), (.goto (-25), 3), (.iload_n 2, 1), (.ireturn, 1)]
abbrev fd_p107 : List Nat := [0, 1, 2, 3, 4, 5, 7, 10, 11, 14, 15, 16, 17, 20, 21, 22, 23, 24, 25, 26, 29, 32, 33, 34]
-- 108: FoldedStrips$Strip.strokesOf(I)I
noncomputable abbrev fd_c108 : List Instr := [.sipush 0, .istore 2, .sipush 0, .istore 3, .iload 3, .sipush 6, .if_icmp .ge 21, .aload 0, .invokeinterface 5 1, .iload 3, .iaload, .iload 1, .if_icmp .ne 19, .iload 2, .aload 0, .iload 3, .invokevirtual 81, .iadd, .istore 2, .iinc 3 1, .goto 4, .iload 2, .ireturn]
noncomputable abbrev fd_o108 : List (Instr × Nat) := [(.iconst 0, 1), (.istore_n 2, 1), (.iconst 0, 1), (.istore_n 3, 1), (.iload_n 3, 1), (.bipush 6, 2), (.if_icmp .ge 27, 3), (.aload_n 0, 1), (.getfield 15, 3), (.iload_n 3, 1), (.iaload, 1), (.iload_n 1, 1), (.if_icmp .ne 11, 3), (.iload_n 2, 1), (.aload_n 0, 1), (.iload_n 3, 1), (.invokevirtual 85, 3), (.iadd, 1), (.istore_n 2, 1), (.iinc 3 1, 3), (.goto (-27), 3), (.iload_n 2, 1), (.ireturn, 1)]
abbrev fd_p108 : List Nat := [0, 1, 2, 3, 4, 5, 7, 10, 11, 14, 15, 16, 17, 20, 21, 22, 23, 26, 27, 28, 31, 34, 35, 36]
-- 109: FoldedStrips$Strip.missedMarksOf(I)I
noncomputable abbrev fd_c109 : List Instr := [.sipush 0, .istore 2, .sipush 0, .istore 3, .iload 3, .sipush 5, .if_icmp .ge 23, .aload 0, .iload 3, .sipush 1, .iadd, .invokevirtual 99, .iload 1, .if_icmp .ne 21, .iload 2, .aload 0, .iload 3, .invokevirtual 96, .invokestatic 182, .iadd, .istore 2, .iinc 3 1, .goto 4, .iload 2, .ireturn]
noncomputable abbrev fd_o109 : List (Instr × Nat) := [(.iconst 0, 1), (.istore_n 2, 1), (.iconst 0, 1), (.istore_n 3, 1), (.iload_n 3, 1), (.iconst 5, 1), (.if_icmp .ge 31, 3), (.aload_n 0, 1), (.iload_n 3, 1), (.iconst 1, 1), (.iadd, 1), (.invokevirtual 88, 3), (.iload_n 1, 1), (.if_icmp .ne 14, 3), (.iload_n 2, 1), (.aload_n 0, 1), (.iload_n 3, 1), (.invokevirtual 77, 3), (.invokestatic 80, 3), (.iadd, 1), (.istore_n 2, 1), (.iinc 3 1, 3), (.goto (-30), 3), (.iload_n 2, 1), (.ireturn, 1)]
abbrev fd_p109 : List Nat := [0, 1, 2, 3, 4, 5, 6, 9, 10, 11, 12, 13, 16, 17, 20, 21, 22, 23, 26, 29, 30, 31, 34, 37, 38, 39]
-- 110: FoldedStrips$Strip.unmarkedStartsOf(I)I
noncomputable abbrev fd_c110 : List Instr := [.sipush 0, .istore 2, .sipush 0, .istore 3, .iload 3, .sipush 5, .if_icmp .ge 23, .aload 0, .iload 3, .sipush 1, .iadd, .invokevirtual 99, .iload 1, .if_icmp .ne 21, .iload 2, .aload 0, .iload 3, .invokevirtual 106, .invokestatic 182, .iadd, .istore 2, .iinc 3 1, .goto 4, .iload 2, .ireturn]
noncomputable abbrev fd_o110 : List (Instr × Nat) := [(.iconst 0, 1), (.istore_n 2, 1), (.iconst 0, 1), (.istore_n 3, 1), (.iload_n 3, 1), (.iconst 5, 1), (.if_icmp .ge 31, 3), (.aload_n 0, 1), (.iload_n 3, 1), (.iconst 1, 1), (.iadd, 1), (.invokevirtual 88, 3), (.iload_n 1, 1), (.if_icmp .ne 14, 3), (.iload_n 2, 1), (.aload_n 0, 1), (.iload_n 3, 1), (.invokevirtual 91, 3), (.invokestatic 80, 3), (.iadd, 1), (.istore_n 2, 1), (.iinc 3 1, 3), (.goto (-30), 3), (.iload_n 2, 1), (.ireturn, 1)]
abbrev fd_p110 : List Nat := [0, 1, 2, 3, 4, 5, 6, 9, 10, 11, 12, 13, 16, 17, 20, 21, 22, 23, 26, 29, 30, 31, 34, 37, 38, 39]
-- 111: FoldedStrips$Strip.strokes()I
noncomputable abbrev fd_c111 : List Instr := [.sipush 0, .istore 1, .sipush 0, .istore 2, .iload 2, .sipush 6, .if_icmp .ge 15, .iload 1, .aload 0, .iload 2, .invokevirtual 81, .iadd, .istore 1, .iinc 2 1, .goto 4, .iload 1, .ireturn]
noncomputable abbrev fd_o111 : List (Instr × Nat) := [(.iconst 0, 1), (.istore_n 1, 1), (.iconst 0, 1), (.istore_n 2, 1), (.iload_n 2, 1), (.bipush 6, 2), (.if_icmp .ge 17, 3), (.iload_n 1, 1), (.aload_n 0, 1), (.iload_n 2, 1), (.invokevirtual 85, 3), (.iadd, 1), (.istore_n 1, 1), (.iinc 2 1, 3), (.goto (-17), 3), (.iload_n 1, 1), (.ireturn, 1)]
abbrev fd_p111 : List Nat := [0, 1, 2, 3, 4, 5, 7, 10, 11, 12, 13, 16, 17, 18, 21, 24, 25, 26]
-- 112: FoldedStrips$Strip.freeEnds()I
noncomputable abbrev fd_c112 : List Instr := [.aload 0, .sipush 0, .invokevirtual 82, .invokestatic 182, .aload 0, .sipush 11, .invokevirtual 82, .invokestatic 182, .iadd, .ireturn]
noncomputable abbrev fd_o112 : List (Instr × Nat) := [(.aload_n 0, 1), (.iconst 0, 1), (.invokevirtual 57, 3), (.invokestatic 80, 3), (.aload_n 0, 1), (.bipush 11, 2), (.invokevirtual 57, 3), (.invokestatic 80, 3), (.iadd, 1), (.ireturn, 1)]
abbrev fd_p112 : List Nat := [0, 1, 2, 5, 8, 9, 11, 14, 17, 18, 19]
-- 113: FoldedStrips$Strip.crossingPairs()I
noncomputable abbrev fd_c113 : List Instr := [.sipush 0, .istore 1, .sipush 0, .istore 2, .iload 2, .sipush 6, .if_icmp .ge 15, .iload 1, .aload 0, .iload 2, .invokevirtual 103, .iadd, .istore 1, .iinc 2 1, .goto 4, .iload 1, .ireturn]
noncomputable abbrev fd_o113 : List (Instr × Nat) := [(.iconst 0, 1), (.istore_n 1, 1), (.iconst 0, 1), (.istore_n 2, 1), (.iload_n 2, 1), (.bipush 6, 2), (.if_icmp .ge 17, 3), (.iload_n 1, 1), (.aload_n 0, 1), (.iload_n 2, 1), (.invokevirtual 121, 3), (.iadd, 1), (.istore_n 1, 1), (.iinc 2 1, 3), (.goto (-17), 3), (.iload_n 1, 1), (.ireturn, 1)]
abbrev fd_p113 : List Nat := [0, 1, 2, 3, 4, 5, 7, 10, 11, 12, 13, 16, 17, 18, 21, 24, 25, 26]
-- 114: none
noncomputable abbrev fd_c114 : List Instr := []
noncomputable abbrev fd_o114 : List (Instr × Nat) := []
abbrev fd_p114 : List Nat := []
-- 115: none
noncomputable abbrev fd_c115 : List Instr := []
noncomputable abbrev fd_o115 : List (Instr × Nat) := []
abbrev fd_p115 : List Nat := []
-- 116: none
noncomputable abbrev fd_c116 : List Instr := []
noncomputable abbrev fd_o116 : List (Instr × Nat) := []
abbrev fd_p116 : List Nat := []
-- 117: none
noncomputable abbrev fd_c117 : List Instr := []
noncomputable abbrev fd_o117 : List (Instr × Nat) := []
abbrev fd_p117 : List Nat := []
-- 118: none
noncomputable abbrev fd_c118 : List Instr := []
noncomputable abbrev fd_o118 : List (Instr × Nat) := []
abbrev fd_p118 : List Nat := []
-- 119: none
noncomputable abbrev fd_c119 : List Instr := []
noncomputable abbrev fd_o119 : List (Instr × Nat) := []
abbrev fd_p119 : List Nat := []
-- 120: none
noncomputable abbrev fd_c120 : List Instr := []
noncomputable abbrev fd_o120 : List (Instr × Nat) := []
abbrev fd_p120 : List Nat := []
-- 121: none
noncomputable abbrev fd_c121 : List Instr := []
noncomputable abbrev fd_o121 : List (Instr × Nat) := []
abbrev fd_p121 : List Nat := []
-- 122: none
noncomputable abbrev fd_c122 : List Instr := []
noncomputable abbrev fd_o122 : List (Instr × Nat) := []
abbrev fd_p122 : List Nat := []
-- 123: none
noncomputable abbrev fd_c123 : List Instr := []
noncomputable abbrev fd_o123 : List (Instr × Nat) := []
abbrev fd_p123 : List Nat := []
-- 124: none
noncomputable abbrev fd_c124 : List Instr := []
noncomputable abbrev fd_o124 : List (Instr × Nat) := []
abbrev fd_p124 : List Nat := []
-- 125: none
noncomputable abbrev fd_c125 : List Instr := []
noncomputable abbrev fd_o125 : List (Instr × Nat) := []
abbrev fd_p125 : List Nat := []
-- 126: none
noncomputable abbrev fd_c126 : List Instr := []
noncomputable abbrev fd_o126 : List (Instr × Nat) := []
abbrev fd_p126 : List Nat := []
-- 127: none
noncomputable abbrev fd_c127 : List Instr := []
noncomputable abbrev fd_o127 : List (Instr × Nat) := []
abbrev fd_p127 : List Nat := []
-- 128: none
noncomputable abbrev fd_c128 : List Instr := []
noncomputable abbrev fd_o128 : List (Instr × Nat) := []
abbrev fd_p128 : List Nat := []
-- 129: none
noncomputable abbrev fd_c129 : List Instr := []
noncomputable abbrev fd_o129 : List (Instr × Nat) := []
abbrev fd_p129 : List Nat := []
-- 130: none
noncomputable abbrev fd_c130 : List Instr := []
noncomputable abbrev fd_o130 : List (Instr × Nat) := []
abbrev fd_p130 : List Nat := []
-- 131: none
noncomputable abbrev fd_c131 : List Instr := []
noncomputable abbrev fd_o131 : List (Instr × Nat) := []
abbrev fd_p131 : List Nat := []
-- 132: none
noncomputable abbrev fd_c132 : List Instr := []
noncomputable abbrev fd_o132 : List (Instr × Nat) := []
abbrev fd_p132 : List Nat := []
-- 133: none
noncomputable abbrev fd_c133 : List Instr := []
noncomputable abbrev fd_o133 : List (Instr × Nat) := []
abbrev fd_p133 : List Nat := []
-- 134: none
noncomputable abbrev fd_c134 : List Instr := []
noncomputable abbrev fd_o134 : List (Instr × Nat) := []
abbrev fd_p134 : List Nat := []
-- 135: none
noncomputable abbrev fd_c135 : List Instr := []
noncomputable abbrev fd_o135 : List (Instr × Nat) := []
abbrev fd_p135 : List Nat := []
-- 136: none
noncomputable abbrev fd_c136 : List Instr := []
noncomputable abbrev fd_o136 : List (Instr × Nat) := []
abbrev fd_p136 : List Nat := []
-- 137: none
noncomputable abbrev fd_c137 : List Instr := []
noncomputable abbrev fd_o137 : List (Instr × Nat) := []
abbrev fd_p137 : List Nat := []
-- 138: none
noncomputable abbrev fd_c138 : List Instr := []
noncomputable abbrev fd_o138 : List (Instr × Nat) := []
abbrev fd_p138 : List Nat := []
-- 139: none
noncomputable abbrev fd_c139 : List Instr := []
noncomputable abbrev fd_o139 : List (Instr × Nat) := []
abbrev fd_p139 : List Nat := []
-- 140: none
noncomputable abbrev fd_c140 : List Instr := []
noncomputable abbrev fd_o140 : List (Instr × Nat) := []
abbrev fd_p140 : List Nat := []
-- 141: none
noncomputable abbrev fd_c141 : List Instr := []
noncomputable abbrev fd_o141 : List (Instr × Nat) := []
abbrev fd_p141 : List Nat := []
-- 142: none
noncomputable abbrev fd_c142 : List Instr := []
noncomputable abbrev fd_o142 : List (Instr × Nat) := []
abbrev fd_p142 : List Nat := []
-- 143: none
noncomputable abbrev fd_c143 : List Instr := []
noncomputable abbrev fd_o143 : List (Instr × Nat) := []
abbrev fd_p143 : List Nat := []
-- 144: none
noncomputable abbrev fd_c144 : List Instr := []
noncomputable abbrev fd_o144 : List (Instr × Nat) := []
abbrev fd_p144 : List Nat := []
-- 145: none
noncomputable abbrev fd_c145 : List Instr := []
noncomputable abbrev fd_o145 : List (Instr × Nat) := []
abbrev fd_p145 : List Nat := []
-- 146: none
noncomputable abbrev fd_c146 : List Instr := []
noncomputable abbrev fd_o146 : List (Instr × Nat) := []
abbrev fd_p146 : List Nat := []
-- 147: none
noncomputable abbrev fd_c147 : List Instr := []
noncomputable abbrev fd_o147 : List (Instr × Nat) := []
abbrev fd_p147 : List Nat := []
-- 148: none
noncomputable abbrev fd_c148 : List Instr := []
noncomputable abbrev fd_o148 : List (Instr × Nat) := []
abbrev fd_p148 : List Nat := []
-- 149: none
noncomputable abbrev fd_c149 : List Instr := []
noncomputable abbrev fd_o149 : List (Instr × Nat) := []
abbrev fd_p149 : List Nat := []
-- 150: none
noncomputable abbrev fd_c150 : List Instr := []
noncomputable abbrev fd_o150 : List (Instr × Nat) := []
abbrev fd_p150 : List Nat := []
-- 151: none
noncomputable abbrev fd_c151 : List Instr := []
noncomputable abbrev fd_o151 : List (Instr × Nat) := []
abbrev fd_p151 : List Nat := []
-- 152: none
noncomputable abbrev fd_c152 : List Instr := []
noncomputable abbrev fd_o152 : List (Instr × Nat) := []
abbrev fd_p152 : List Nat := []
-- 153: none
noncomputable abbrev fd_c153 : List Instr := []
noncomputable abbrev fd_o153 : List (Instr × Nat) := []
abbrev fd_p153 : List Nat := []
-- 154: none
noncomputable abbrev fd_c154 : List Instr := []
noncomputable abbrev fd_o154 : List (Instr × Nat) := []
abbrev fd_p154 : List Nat := []
-- 155: none
noncomputable abbrev fd_c155 : List Instr := []
noncomputable abbrev fd_o155 : List (Instr × Nat) := []
abbrev fd_p155 : List Nat := []
-- 156: none
noncomputable abbrev fd_c156 : List Instr := []
noncomputable abbrev fd_o156 : List (Instr × Nat) := []
abbrev fd_p156 : List Nat := []
-- 157: none
noncomputable abbrev fd_c157 : List Instr := []
noncomputable abbrev fd_o157 : List (Instr × Nat) := []
abbrev fd_p157 : List Nat := []
-- 158: none
noncomputable abbrev fd_c158 : List Instr := []
noncomputable abbrev fd_o158 : List (Instr × Nat) := []
abbrev fd_p158 : List Nat := []
-- 159: none
noncomputable abbrev fd_c159 : List Instr := []
noncomputable abbrev fd_o159 : List (Instr × Nat) := []
abbrev fd_p159 : List Nat := []
-- 160: none
noncomputable abbrev fd_c160 : List Instr := []
noncomputable abbrev fd_o160 : List (Instr × Nat) := []
abbrev fd_p160 : List Nat := []
-- 161: none
noncomputable abbrev fd_c161 : List Instr := []
noncomputable abbrev fd_o161 : List (Instr × Nat) := []
abbrev fd_p161 : List Nat := []
-- 162: none
noncomputable abbrev fd_c162 : List Instr := []
noncomputable abbrev fd_o162 : List (Instr × Nat) := []
abbrev fd_p162 : List Nat := []
-- 163: none
noncomputable abbrev fd_c163 : List Instr := []
noncomputable abbrev fd_o163 : List (Instr × Nat) := []
abbrev fd_p163 : List Nat := []
-- 164: none
noncomputable abbrev fd_c164 : List Instr := []
noncomputable abbrev fd_o164 : List (Instr × Nat) := []
abbrev fd_p164 : List Nat := []
-- 165: none
noncomputable abbrev fd_c165 : List Instr := []
noncomputable abbrev fd_o165 : List (Instr × Nat) := []
abbrev fd_p165 : List Nat := []
-- 166: none
noncomputable abbrev fd_c166 : List Instr := []
noncomputable abbrev fd_o166 : List (Instr × Nat) := []
abbrev fd_p166 : List Nat := []
-- 167: none
noncomputable abbrev fd_c167 : List Instr := []
noncomputable abbrev fd_o167 : List (Instr × Nat) := []
abbrev fd_p167 : List Nat := []
-- 168: none
noncomputable abbrev fd_c168 : List Instr := []
noncomputable abbrev fd_o168 : List (Instr × Nat) := []
abbrev fd_p168 : List Nat := []
-- 169: none
noncomputable abbrev fd_c169 : List Instr := []
noncomputable abbrev fd_o169 : List (Instr × Nat) := []
abbrev fd_p169 : List Nat := []
-- 170: none
noncomputable abbrev fd_c170 : List Instr := []
noncomputable abbrev fd_o170 : List (Instr × Nat) := []
abbrev fd_p170 : List Nat := []
-- 171: none
noncomputable abbrev fd_c171 : List Instr := []
noncomputable abbrev fd_o171 : List (Instr × Nat) := []
abbrev fd_p171 : List Nat := []
-- 172: none
noncomputable abbrev fd_c172 : List Instr := []
noncomputable abbrev fd_o172 : List (Instr × Nat) := []
abbrev fd_p172 : List Nat := []
-- 173: none
noncomputable abbrev fd_c173 : List Instr := []
noncomputable abbrev fd_o173 : List (Instr × Nat) := []
abbrev fd_p173 : List Nat := []
-- 174: none
noncomputable abbrev fd_c174 : List Instr := []
noncomputable abbrev fd_o174 : List (Instr × Nat) := []
abbrev fd_p174 : List Nat := []
-- 175: none
noncomputable abbrev fd_c175 : List Instr := []
noncomputable abbrev fd_o175 : List (Instr × Nat) := []
abbrev fd_p175 : List Nat := []
-- 176: none
noncomputable abbrev fd_c176 : List Instr := []
noncomputable abbrev fd_o176 : List (Instr × Nat) := []
abbrev fd_p176 : List Nat := []
-- 177: none
noncomputable abbrev fd_c177 : List Instr := []
noncomputable abbrev fd_o177 : List (Instr × Nat) := []
abbrev fd_p177 : List Nat := []
-- 178: none
noncomputable abbrev fd_c178 : List Instr := []
noncomputable abbrev fd_o178 : List (Instr × Nat) := []
abbrev fd_p178 : List Nat := []
-- 179: none
noncomputable abbrev fd_c179 : List Instr := []
noncomputable abbrev fd_o179 : List (Instr × Nat) := []
abbrev fd_p179 : List Nat := []
-- 180: none
noncomputable abbrev fd_c180 : List Instr := []
noncomputable abbrev fd_o180 : List (Instr × Nat) := []
abbrev fd_p180 : List Nat := []
-- 181: none
noncomputable abbrev fd_c181 : List Instr := []
noncomputable abbrev fd_o181 : List (Instr × Nat) := []
abbrev fd_p181 : List Nat := []
-- 182: java/lang/Integer.bitCount(I)I
noncomputable abbrev fd_c182 : List Instr := [.iload 0, .iload 0, .sipush 1, .iushr, .sipush 1431655765, .iand, .isub, .istore 0, .iload 0, .sipush 858993459, .iand, .iload 0, .sipush 2, .iushr, .sipush 858993459, .iand, .iadd, .istore 0, .iload 0, .iload 0, .sipush 4, .iushr, .iadd, .sipush 252645135, .iand, .istore 0, .iload 0, .iload 0, .sipush 8, .iushr, .iadd, .istore 0, .iload 0, .iload 0, .sipush 16, .iushr, .iadd, .istore 0, .iload 0, .sipush 63, .iand, .ireturn]
noncomputable abbrev fd_o182 : List (Instr × Nat) := [(.iload_n 0, 1), (.iload_n 0, 1), (.iconst 1, 1), (.iushr, 1), (.ldc_w 265, 3), (.iand, 1), (.isub, 1), (.istore_n 0, 1), (.iload_n 0, 1), (.ldc_w 266, 3), (.iand, 1), (.iload_n 0, 1), (.iconst 2, 1), (.iushr, 1), (.ldc_w 266, 3), (.iand, 1), (.iadd, 1), (.istore_n 0, 1), (.iload_n 0, 1), (.iload_n 0, 1), (.iconst 4, 1), (.iushr, 1), (.iadd, 1), (.ldc_w 267, 3), (.iand, 1), (.istore_n 0, 1), (.iload_n 0, 1), (.iload_n 0, 1), (.bipush 8, 2), (.iushr, 1), (.iadd, 1), (.istore_n 0, 1), (.iload_n 0, 1), (.iload_n 0, 1), (.bipush 16, 2), (.iushr, 1), (.iadd, 1), (.istore_n 0, 1), (.iload_n 0, 1), (.bipush 63, 2), (.iand, 1), (.ireturn, 1)]
abbrev fd_p182 : List Nat := [0, 1, 2, 3, 4, 7, 8, 9, 10, 11, 14, 15, 16, 17, 18, 21, 22, 23, 24, 25, 26, 27, 28, 29, 32, 33, 34, 35, 36, 38, 39, 40, 41, 42, 43, 45, 46, 47, 48, 49, 51, 52, 53]
-- 183: java/util/Arrays.fill([II)V
noncomputable abbrev fd_c183 : List Instr := [.sipush 0, .istore 2, .aload 0, .arraylength, .istore 3, .iload 2, .iload 3, .if_icmp .ge 14, .aload 0, .iload 2, .iload 1, .iastore, .iinc 2 1, .goto 5, .return_]
noncomputable abbrev fd_o183 : List (Instr × Nat) := [(.iconst 0, 1), (.istore_n 2, 1), (.aload_n 0, 1), (.arraylength, 1), (.istore_n 3, 1), (.iload_n 2, 1), (.iload_n 3, 1), (.if_icmp .ge 13, 3), (.aload_n 0, 1), (.iload_n 2, 1), (.iload_n 1, 1), (.iastore, 1), (.iinc 2 1, 3), (.goto (-12), 3), (.return_, 1)]
abbrev fd_p183 : List Nat := [0, 1, 2, 3, 4, 5, 6, 7, 10, 11, 12, 13, 14, 17, 20, 21]
-- 184: FoldedStrips.<init>()V
noncomputable abbrev fd_c184 : List Instr := [.return_]
noncomputable abbrev fd_o184 : List (Instr × Nat) := [(.return_, 1)]
abbrev fd_p184 : List Nat := [70, 71]
-- 185: FoldedStrips$History.<init>()V
noncomputable abbrev fd_c185 : List Instr := []
noncomputable abbrev fd_o185 : List (Instr × Nat) := []
abbrev fd_p185 : List Nat := []
-- 186: FoldedStrips$Lines.<init>()V
noncomputable abbrev fd_c186 : List Instr := [.return_]
noncomputable abbrev fd_o186 : List (Instr × Nat) := [(.return_, 1)]
abbrev fd_p186 : List Nat := [66, 67]
-- 187: FoldedStrips$Pad.<init>()V
noncomputable abbrev fd_c187 : List Instr := [.return_]
noncomputable abbrev fd_o187 : List (Instr × Nat) := [(.return_, 1)]
abbrev fd_p187 : List Nat := [17, 18]
-- 188: FoldedStrips$Slots.<init>()V
noncomputable abbrev fd_c188 : List Instr := []
noncomputable abbrev fd_o188 : List (Instr × Nat) := []
abbrev fd_p188 : List Nat := []
-- 189: FoldedStrips$Strip.<init>()V
noncomputable abbrev fd_c189 : List Instr := [.sipush 0, .istore 1, .iload 1, .sipush 144, .if_icmp .ge 12, .aload 0, .invokeinterface 5 0, .iload 1, .sipush (-1), .iastore, .iinc 1 1, .goto 2, .sipush 0, .istore 1, .iload 1, .sipush 6, .if_icmp .ge 24, .aload 0, .invokeinterface 5 1, .iload 1, .iload 1, .iastore, .iinc 1 1, .goto 14, .return_]
noncomputable abbrev fd_o189 : List (Instr × Nat) := [(.iconst 0, 1), (.istore_n 1, 1), (.iload_n 1, 1), (.sipush 144, 3), (.if_icmp .ge 16, 3), (.aload_n 0, 1), (.getfield 9, 3), (.iload_n 1, 1), (.iconst (-1), 1), (.iastore, 1), (.iinc 1 1, 3), (.goto (-17), 3), (.iconst 0, 1), (.istore_n 1, 1), (.iload_n 1, 1), (.bipush 6, 2), (.if_icmp .ge 16, 3), (.aload_n 0, 1), (.getfield 15, 3), (.iload_n 1, 1), (.iload_n 1, 1), (.iastore, 1), (.iinc 1 1, 3), (.goto (-16), 3), (.return_, 1)]
abbrev fd_p189 : List Nat := [29, 30, 31, 32, 35, 38, 39, 42, 43, 44, 45, 48, 51, 52, 53, 54, 56, 59, 60, 63, 64, 65, 66, 69, 72, 73]
-- 190: none
noncomputable abbrev fd_c190 : List Instr := []
noncomputable abbrev fd_o190 : List (Instr × Nat) := []
abbrev fd_p190 : List Nat := []
-- 191: FoldedStripsLaw.law([I)Z
noncomputable abbrev fd_c191 : List Instr := [.aload 1, .invokevirtual 34, .sipush (-5), .if_icmp .ne 26, .aload 1, .sipush 0, .invokevirtual 37, .sipush (-5), .if_icmp .ne 26, .aload 1, .sipush 1, .invokevirtual 24, .ifCond .ne 26, .aload 1, .sipush 0, .sipush 0, .invokevirtual 26, .sipush 20, .if_icmp .ne 26, .aload 1, .sipush 0, .invokevirtual 28, .sipush 1, .if_icmp .ne 26, .sipush 1, .goto 27, .sipush 0, .istore 2, .sipush 0, .istore 3, .iload 3, .sipush 40, .if_icmp .ge 54, .iload 2, .ifCond .eq 54, .aload 1, .aload 0, .iload 3, .invokestatic 193, .invokestatic 198, .ifCond .eq 50, .iload 3, .sipush 13, .irem, .ifCond .gt 48, .aload 1, .invokestatic 196, .ifCond .eq 50, .sipush 1, .goto 51, .sipush 0, .istore 2, .iinc 3 1, .goto 30, .aload 1, .sipush 0, .invokevirtual 24, .istore 3, .aload 1, .sipush 3, .invokevirtual 24, .istore 4, .iload 2, .ifCond .eq 99, .aload 1, .invokestatic 195, .ifCond .eq 99, .aload 1, .invokestatic 196, .ifCond .eq 99, .aload 1, .invokestatic 197, .ifCond .eq 99, .aload 1, .sipush 1, .invokevirtual 35, .iload 3, .if_icmp .ne 99, .aload 1, .sipush 2, .invokevirtual 10, .ifCond .lt 99, .aload 1, .sipush 3, .sipush 1, .invokevirtual 12, .ifCond .lt 99, .aload 1, .sipush 1, .invokevirtual 37, .iload 3, .if_icmp .ne 99, .aload 1, .sipush 3, .invokevirtual 24, .iload 4, .if_icmp .ne 99, .sipush 1, .goto 100, .sipush 0, .istore 2, .iload 2, .ifCond .eq 113, .aload 1, .invokevirtual 34, .ifCond .lt 113, .aload 1, .sipush 2, .sipush 0, .invokevirtual 19, .ifCond .ne 113, .sipush 1, .goto 114, .sipush 0, .ireturn]
noncomputable abbrev fd_o191 : List (Instr × Nat) := [(.aload_n 1, 1), (.invokevirtual 68, 3), (.bipush (-5), 2), (.if_icmp .ne 45, 3), (.aload_n 1, 1), (.iconst 0, 1), (.invokevirtual 72, 3), (.bipush (-5), 2), (.if_icmp .ne 35, 3), (.aload_n 1, 1), (.iconst 1, 1), (.invokevirtual 25, 3), (.ifCond .ne 27, 3), (.aload_n 1, 1), (.iconst 0, 1), (.iconst 0, 1), (.invokevirtual 43, 3), (.bipush 20, 2), (.if_icmp .ne 16, 3), (.aload_n 1, 1), (.iconst 0, 1), (.invokevirtual 55, 3), (.iconst 1, 1), (.if_icmp .ne 7, 3), (.iconst 1, 1), (.goto 4, 3), (.iconst 0, 1), (.istore_n 2, 1), (.iconst 0, 1), (.istore_n 3, 1), (.iload_n 3, 1), (.bipush 40, 2), (.if_icmp .ge 45, 3), (.iload_n 2, 1), (.ifCond .eq 41, 3), (.aload_n 1, 1), (.aload_n 0, 1), (.iload_n 3, 1), (.invokestatic 75, 3), (.invokestatic 79, 3), (.ifCond .eq 21, 3), (.iload_n 3, 1), (.bipush 13, 2), (.irem, 1), (.ifCond .gt 10, 3), (.aload_n 1, 1), (.invokestatic 83, 3), (.ifCond .eq 7, 3), (.iconst 1, 1), (.goto 4, 3), (.iconst 0, 1), (.istore_n 2, 1), (.iinc 3 1, 3), (.goto (-45), 3), (.aload_n 1, 1), (.iconst 0, 1), (.invokevirtual 25, 3), (.istore_n 3, 1), (.aload_n 1, 1), (.iconst 3, 1), (.invokevirtual 25, 3), (.istore 4, 2), (.iload_n 2, 1), (.ifCond .eq 73, 3), (.aload_n 1, 1), (.invokestatic 87, 3), (.ifCond .eq 66, 3), (.aload_n 1, 1), (.invokestatic 83, 3), (.ifCond .eq 59, 3), (.aload_n 1, 1), (.invokestatic 90, 3), (.ifCond .eq 52, 3), (.aload_n 1, 1), (.iconst 1, 1), (.invokevirtual 93, 3), (.iload_n 3, 1), (.if_icmp .ne 43, 3), (.aload_n 1, 1), (.iconst 2, 1), (.invokevirtual 64, 3), (.ifCond .lt 35, 3), (.aload_n 1, 1), (.iconst 3, 1), (.iconst 1, 1), (.invokevirtual 52, 3), (.ifCond .lt 26, 3), (.aload_n 1, 1), (.iconst 1, 1), (.invokevirtual 72, 3), (.iload_n 3, 1), (.if_icmp .ne 17, 3), (.aload_n 1, 1), (.iconst 3, 1), (.invokevirtual 25, 3), (.iload 4, 2), (.if_icmp .ne 7, 3), (.iconst 1, 1), (.goto 4, 3), (.iconst 0, 1), (.istore_n 2, 1), (.iload_n 2, 1), (.ifCond .eq 23, 3), (.aload_n 1, 1), (.invokevirtual 68, 3), (.ifCond .lt 16, 3), (.aload_n 1, 1), (.iconst 2, 1), (.iconst 0, 1), (.invokevirtual 15, 3), (.ifCond .ne 7, 3), (.iconst 1, 1), (.goto 4, 3), (.iconst 0, 1), (.ireturn, 1)]
abbrev fd_p191 : List Nat := [8, 9, 12, 14, 17, 18, 19, 22, 24, 27, 28, 29, 32, 35, 36, 37, 38, 41, 43, 46, 47, 48, 51, 52, 55, 56, 59, 60, 61, 62, 63, 64, 66, 69, 70, 73, 74, 75, 76, 79, 82, 85, 86, 88, 89, 92, 93, 96, 99, 100, 103, 104, 105, 108, 111, 112, 113, 116, 117, 118, 119, 122, 124, 125, 128, 129, 132, 135, 136, 139, 142, 143, 146, 149, 150, 151, 154, 155, 158, 159, 160, 163, 166, 167, 168, 169, 172, 175, 176, 177, 180, 181, 184, 185, 186, 189, 191, 194, 195, 198, 199, 200, 201, 204, 205, 208, 211, 212, 213, 214, 217, 220, 221, 224, 225, 226]
-- 192: FoldedStrips$History.stateAt(I)LFoldedStrips$Strip;
noncomputable abbrev fd_c192 : List Instr := [.iload 1, .ifCond .lt 10, .iload 1, .sipush 6, .if_icmp .ge 10, .aload 0, .invokeinterface 1 0, .iload 1, .aaload, .goto 11, .aconst_null, .areturn]
noncomputable abbrev fd_o192 : List (Instr × Nat) := [(.iload_n 1, 1), (.ifCond .lt 18, 3), (.iload_n 1, 1), (.bipush 6, 2), (.if_icmp .ge 12, 3), (.aload_n 0, 1), (.getfield 11, 3), (.iload_n 1, 1), (.aaload, 1), (.goto 4, 3), (.aconst_null, 1), (.areturn, 1)]
abbrev fd_p192 : List Nat := [0, 1, 4, 5, 7, 10, 11, 14, 15, 16, 19, 20, 21]
-- 193: FoldedStripsLaw.cell([II)I
noncomputable abbrev fd_c193 : List Instr := [.iload 1, .aload 0, .arraylength, .if_icmp .ge 8, .aload 0, .iload 1, .iaload, .goto 13, .sipush 15485959, .iload 1, .imul, .sipush 4858, .iadd, .sipush 2147483647, .iand, .ireturn]
noncomputable abbrev fd_o193 : List (Instr × Nat) := [(.iload_n 1, 1), (.aload_n 0, 1), (.arraylength, 1), (.if_icmp .ge 9, 3), (.aload_n 0, 1), (.iload_n 1, 1), (.iaload, 1), (.goto 11, 3), (.ldc 7, 2), (.iload_n 1, 1), (.imul, 1), (.sipush 4858, 3), (.iadd, 1), (.ldc 8, 2), (.iand, 1), (.ireturn, 1)]
abbrev fd_p193 : List Nat := [0, 1, 2, 3, 6, 7, 8, 9, 12, 14, 15, 16, 19, 20, 22, 23, 24]
-- 194: FoldedStripsLaw.bits(I)I
noncomputable abbrev fd_c194 : List Instr := [.sipush 0, .istore 1, .sipush 0, .istore 2, .iload 2, .sipush 24, .if_icmp .ge 17, .iload 1, .iload 0, .iload 2, .ishr, .sipush 1, .iand, .iadd, .istore 1, .iinc 2 1, .goto 4, .iload 1, .ireturn]
noncomputable abbrev fd_o194 : List (Instr × Nat) := [(.iconst 0, 1), (.istore_n 1, 1), (.iconst 0, 1), (.istore_n 2, 1), (.iload_n 2, 1), (.bipush 24, 2), (.if_icmp .ge 17, 3), (.iload_n 1, 1), (.iload_n 0, 1), (.iload_n 2, 1), (.ishr, 1), (.iconst 1, 1), (.iand, 1), (.iadd, 1), (.istore_n 1, 1), (.iinc 2 1, 3), (.goto (-17), 3), (.iload_n 1, 1), (.ireturn, 1)]
abbrev fd_p194 : List Nat := [0, 1, 2, 3, 4, 5, 7, 10, 11, 12, 13, 14, 15, 16, 17, 18, 21, 24, 25, 26]
-- 195: FoldedStripsLaw.areEnds(LFoldedStrips;)Z
noncomputable abbrev fd_c195 : List Instr := [.sipush 0, .istore 1, .sipush 0, .istore 2, .sipush 0, .istore 3, .aload 0, .sipush 6, .sipush 0, .sipush 0, .invokevirtual 16, .sipush (-1), .if_icmp .ne 22, .aload 0, .sipush 0, .sipush 24, .sipush 0, .invokevirtual 16, .sipush (-1), .if_icmp .ne 22, .sipush 1, .goto 23, .sipush 0, .istore 4, .sipush 0, .istore 5, .iload 5, .sipush 6, .if_icmp .ge 236, .iload 4, .ifCond .eq 236, .sipush 0, .istore 6, .sipush 0, .istore 7, .sipush 0, .istore 8, .iload 8, .sipush 24, .if_icmp .ge 193, .iload 4, .ifCond .eq 193, .aload 0, .iload 5, .iload 8, .sipush 0, .invokevirtual 16, .istore 9, .aload 0, .iload 5, .iload 8, .sipush 1, .invokevirtual 16, .istore 10, .iload 8, .sipush 12, .if_icmp .ge 61, .iload 5, .sipush 1, .isub, .goto 64, .iload 5, .sipush 1, .iadd, .istore 11, .iload 8, .sipush 12, .if_icmp .ge 72, .iload 8, .sipush 12, .iadd, .goto 75, .iload 8, .sipush 12, .isub, .istore 12, .iload 11, .ifCond .lt 89, .iload 11, .sipush 6, .if_icmp .ge 89, .aload 0, .iload 11, .iload 12, .sipush 0, .invokevirtual 16, .ifCond .lt 89, .sipush 1, .goto 90, .sipush 0, .istore 13, .iload 9, .ifCond .ge 113, .iload 10, .ifCond .ne 111, .aload 0, .iload 5, .iload 8, .sipush 2, .invokevirtual 16, .sipush (-6), .if_icmp .ne 111, .aload 0, .iload 5, .iload 8, .sipush 3, .invokevirtual 16, .sipush (-6), .if_icmp .ne 111, .sipush 1, .goto 164, .sipush 0, .goto 164, .aload 0, .iload 5, .iload 9, .sipush 0, .invokevirtual 16, .iload 8, .if_icmp .ne 163, .iload 9, .iload 8, .if_icmp .eq 163, .iload 10, .iload 11, .ifCond .lt 129, .iload 11, .sipush 5, .if_icmp .le 131, .sipush 3, .goto 136, .iload 13, .ifCond .eq 135, .sipush 1, .goto 136, .sipush 2, .if_icmp .ne 163, .aload 0, .iload 5, .iload 9, .sipush 2, .invokevirtual 16, .aload 0, .iload 5, .iload 8, .sipush 2, .invokevirtual 16, .if_icmp .ne 163, .iload 13, .ifCond .eq 161, .aload 0, .iload 11, .iload 12, .sipush 2, .invokevirtual 16, .aload 0, .iload 5, .iload 8, .sipush 2, .invokevirtual 16, .if_icmp .ne 163, .sipush 1, .goto 164, .sipush 0, .istore 4, .iload 6, .iload 9, .ifCond .lt 170, .sipush 1, .goto 171, .sipush 0, .iadd, .istore 6, .iload 7, .iload 10, .sipush 2, .if_icmp .ne 179, .sipush 1, .goto 180, .sipush 0, .iadd, .istore 7, .iload 2, .iload 10, .sipush 3, .if_icmp .ne 188, .sipush 1, .goto 189, .sipush 0, .iadd, .istore 2, .iinc 8 1, .goto 37, .iload 1, .iload 7, .iadd, .istore 1, .iload 3, .iload 6, .iadd, .istore 3, .iload 4, .ifCond .eq 232, .aload 0, .iload 5, .sipush 0, .invokevirtual 19, .sipush 2, .imul, .iload 6, .if_icmp .ne 232, .aload 0, .iload 5, .sipush 5, .invokevirtual 19, .iload 7, .if_icmp .ne 232, .aload 0, .iload 5, .sipush 2, .invokevirtual 19, .invokestatic 194, .aload 0, .iload 5, .sipush 3, .invokevirtual 19, .invokestatic 194, .iadd, .iload 6, .if_icmp .ne 232, .sipush 1, .goto 233, .sipush 0, .istore 4, .iinc 5 1, .goto 26, .iload 4, .ifCond .eq 257, .iload 1, .aload 0, .sipush 3, .invokevirtual 24, .if_icmp .ne 257, .iload 2, .aload 0, .sipush 4, .invokevirtual 24, .if_icmp .ne 257, .iload 3, .sipush 2, .aload 0, .sipush 0, .invokevirtual 24, .imul, .if_icmp .ne 257, .sipush 1, .goto 258, .sipush 0, .ireturn]
noncomputable abbrev fd_o195 : List (Instr × Nat) := [(.iconst 0, 1), (.istore_n 1, 1), (.iconst 0, 1), (.istore_n 2, 1), (.iconst 0, 1), (.istore_n 3, 1), (.aload_n 0, 1), (.bipush 6, 2), (.iconst 0, 1), (.iconst 0, 1), (.invokevirtual 9, 3), (.iconst (-1), 1), (.if_icmp .ne 19, 3), (.aload_n 0, 1), (.iconst 0, 1), (.bipush 24, 2), (.iconst 0, 1), (.invokevirtual 9, 3), (.iconst (-1), 1), (.if_icmp .ne 7, 3), (.iconst 1, 1), (.goto 4, 3), (.iconst 0, 1), (.istore 4, 2), (.iconst 0, 1), (.istore 5, 2), (.iload 5, 2), (.bipush 6, 2), (.if_icmp .ge 406, 3), (.iload 4, 2), (.ifCond .eq 401, 3), (.iconst 0, 1), (.istore 6, 2), (.iconst 0, 1), (.istore 7, 2), (.iconst 0, 1), (.istore 8, 2), (.iload 8, 2), (.bipush 24, 2), (.if_icmp .ge 305, 3), (.iload 4, 2), (.ifCond .eq 300, 3), (.aload_n 0, 1), (.iload 5, 2), (.iload 8, 2), (.iconst 0, 1), (.invokevirtual 9, 3), (.istore 9, 2), (.aload_n 0, 1), (.iload 5, 2), (.iload 8, 2), (.iconst 1, 1), (.invokevirtual 9, 3), (.istore 10, 2), (.iload 8, 2), (.bipush 12, 2), (.if_icmp .ge 10, 3), (.iload 5, 2), (.iconst 1, 1), (.isub, 1), (.goto 7, 3), (.iload 5, 2), (.iconst 1, 1), (.iadd, 1), (.istore 11, 2), (.iload 8, 2), (.bipush 12, 2), (.if_icmp .ge 11, 3), (.iload 8, 2), (.bipush 12, 2), (.iadd, 1), (.goto 8, 3), (.iload 8, 2), (.bipush 12, 2), (.isub, 1), (.istore 12, 2), (.iload 11, 2), (.ifCond .lt 26, 3), (.iload 11, 2), (.bipush 6, 2), (.if_icmp .ge 19, 3), (.aload_n 0, 1), (.iload 11, 2), (.iload 12, 2), (.iconst 0, 1), (.invokevirtual 9, 3), (.ifCond .lt 7, 3), (.iconst 1, 1), (.goto 4, 3), (.iconst 0, 1), (.istore 13, 2), (.iload 9, 2), (.ifCond .ge 44, 3), (.iload 10, 2), (.ifCond .ne 35, 3), (.aload_n 0, 1), (.iload 5, 2), (.iload 8, 2), (.iconst 2, 1), (.invokevirtual 9, 3), (.bipush (-6), 2), (.if_icmp .ne 21, 3), (.aload_n 0, 1), (.iload 5, 2), (.iload 8, 2), (.iconst 3, 1), (.invokevirtual 9, 3), (.bipush (-6), 2), (.if_icmp .ne 7, 3), (.iconst 1, 1), (.goto 110, 3), (.iconst 0, 1), (.goto 106, 3), (.aload_n 0, 1), (.iload 5, 2), (.iload 9, 2), (.iconst 0, 1), (.invokevirtual 9, 3), (.iload 8, 2), (.if_icmp .ne 91, 3), (.iload 9, 2), (.iload 8, 2), (.if_icmp .eq 84, 3), (.iload 10, 2), (.iload 11, 2), (.ifCond .lt 9, 3), (.iload 11, 2), (.iconst 5, 1), (.if_icmp .le 7, 3), (.iconst 3, 1), (.goto 13, 3), (.iload 13, 2), (.ifCond .eq 7, 3), (.iconst 1, 1), (.goto 4, 3), (.iconst 2, 1), (.if_icmp .ne 54, 3), (.aload_n 0, 1), (.iload 5, 2), (.iload 9, 2), (.iconst 2, 1), (.invokevirtual 9, 3), (.aload_n 0, 1), (.iload 5, 2), (.iload 8, 2), (.iconst 2, 1), (.invokevirtual 9, 3), (.if_icmp .ne 33, 3), (.iload 13, 2), (.ifCond .eq 24, 3), (.aload_n 0, 1), (.iload 11, 2), (.iload 12, 2), (.iconst 2, 1), (.invokevirtual 9, 3), (.aload_n 0, 1), (.iload 5, 2), (.iload 8, 2), (.iconst 2, 1), (.invokevirtual 9, 3), (.if_icmp .ne 7, 3), (.iconst 1, 1), (.goto 4, 3), (.iconst 0, 1), (.istore 4, 2), (.iload 6, 2), (.iload 9, 2), (.ifCond .lt 7, 3), (.iconst 1, 1), (.goto 4, 3), (.iconst 0, 1), (.iadd, 1), (.istore 6, 2), (.iload 7, 2), (.iload 10, 2), (.iconst 2, 1), (.if_icmp .ne 7, 3), (.iconst 1, 1), (.goto 4, 3), (.iconst 0, 1), (.iadd, 1), (.istore 7, 2), (.iload_n 2, 1), (.iload 10, 2), (.iconst 3, 1), (.if_icmp .ne 7, 3), (.iconst 1, 1), (.goto 4, 3), (.iconst 0, 1), (.iadd, 1), (.istore_n 2, 1), (.iinc 8 1, 3), (.goto (-306), 3), (.iload_n 1, 1), (.iload 7, 2), (.iadd, 1), (.istore_n 1, 1), (.iload_n 3, 1), (.iload 6, 2), (.iadd, 1), (.istore_n 3, 1), (.iload 4, 2), (.ifCond .eq 59, 3), (.aload_n 0, 1), (.iload 5, 2), (.iconst 0, 1), (.invokevirtual 15, 3), (.iconst 2, 1), (.imul, 1), (.iload 6, 2), (.if_icmp .ne 45, 3), (.aload_n 0, 1), (.iload 5, 2), (.iconst 5, 1), (.invokevirtual 15, 3), (.iload 7, 2), (.if_icmp .ne 33, 3), (.aload_n 0, 1), (.iload 5, 2), (.iconst 2, 1), (.invokevirtual 15, 3), (.invokestatic 19, 3), (.aload_n 0, 1), (.iload 5, 2), (.iconst 3, 1), (.invokevirtual 15, 3), (.invokestatic 19, 3), (.iadd, 1), (.iload 6, 2), (.if_icmp .ne 7, 3), (.iconst 1, 1), (.goto 4, 3), (.iconst 0, 1), (.istore 4, 2), (.iinc 5 1, 3), (.goto (-407), 3), (.iload 4, 2), (.ifCond .eq 36, 3), (.iload_n 1, 1), (.aload_n 0, 1), (.iconst 3, 1), (.invokevirtual 25, 3), (.if_icmp .ne 27, 3), (.iload_n 2, 1), (.aload_n 0, 1), (.iconst 4, 1), (.invokevirtual 25, 3), (.if_icmp .ne 18, 3), (.iload_n 3, 1), (.iconst 2, 1), (.aload_n 0, 1), (.iconst 0, 1), (.invokevirtual 25, 3), (.imul, 1), (.if_icmp .ne 7, 3), (.iconst 1, 1), (.goto 4, 3), (.iconst 0, 1), (.ireturn, 1)]
abbrev fd_p195 : List Nat := [0, 1, 2, 3, 4, 5, 6, 7, 9, 10, 11, 14, 15, 18, 19, 20, 22, 23, 26, 27, 30, 31, 34, 35, 37, 38, 40, 42, 44, 47, 49, 52, 53, 55, 56, 58, 59, 61, 63, 65, 68, 70, 73, 74, 76, 78, 79, 82, 84, 85, 87, 89, 90, 93, 95, 97, 99, 102, 104, 105, 106, 109, 111, 112, 113, 115, 117, 119, 122, 124, 126, 127, 130, 132, 134, 135, 137, 139, 142, 144, 146, 149, 150, 152, 154, 155, 158, 161, 162, 165, 166, 168, 170, 173, 175, 178, 179, 181, 183, 184, 187, 189, 192, 193, 195, 197, 198, 201, 203, 206, 207, 210, 211, 214, 215, 217, 219, 220, 223, 225, 228, 230, 232, 235, 237, 239, 242, 244, 245, 248, 249, 252, 254, 257, 258, 261, 262, 265, 266, 268, 270, 271, 274, 275, 277, 279, 280, 283, 286, 288, 291, 292, 294, 296, 297, 300, 301, 303, 305, 306, 309, 312, 313, 316, 317, 319, 321, 323, 326, 327, 330, 331, 332, 334, 336, 338, 339, 342, 343, 346, 347, 348, 350, 351, 353, 354, 357, 358, 361, 362, 363, 364, 367, 370, 371, 373, 374, 375, 376, 378, 379, 380, 382, 385, 386, 388, 389, 392, 393, 394, 396, 399, 400, 402, 403, 406, 408, 411, 412, 414, 415, 418, 421, 422, 424, 425, 428, 431, 432, 434, 437, 438, 441, 442, 444, 447, 450, 452, 455, 456, 457, 458, 461, 464, 465, 466, 467, 470, 473, 474, 475, 476, 477, 480, 481, 484, 485, 488, 489, 490]
-- 196: FoldedStripsLaw.areFolds(LFoldedStrips;)Z
noncomputable abbrev fd_c196 : List Instr := [.sipush 0, .istore 1, .sipush 0, .istore 2, .sipush 0, .istore 3, .sipush 0, .istore 4, .aload 0, .sipush 5, .sipush 0, .invokevirtual 20, .sipush (-1), .if_icmp .ne 16, .sipush 1, .goto 17, .sipush 0, .istore 5, .sipush 0, .istore 6, .iload 6, .sipush 5, .if_icmp .ge 84, .iload 5, .ifCond .eq 84, .aload 0, .iload 6, .sipush 3, .invokevirtual 19, .istore 7, .aload 0, .iload 6, .sipush 1, .iadd, .sipush 2, .invokevirtual 19, .istore 8, .iload 1, .iload 7, .iload 8, .ixor, .invokestatic 194, .iadd, .istore 1, .aload 0, .iload 6, .sipush 0, .invokevirtual 20, .iload 7, .if_icmp .ne 80, .aload 0, .iload 6, .sipush 1, .invokevirtual 20, .iload 7, .iload 8, .iand, .if_icmp .ne 80, .aload 0, .iload 6, .sipush 2, .invokevirtual 20, .iload 7, .iload 8, .sipush (-1), .ixor, .iand, .if_icmp .ne 80, .aload 0, .iload 6, .sipush 3, .invokevirtual 20, .iload 8, .iload 7, .sipush (-1), .ixor, .iand, .if_icmp .ne 80, .sipush 1, .goto 81, .sipush 0, .istore 5, .iinc 6 1, .goto 20, .sipush 0, .istore 6, .iload 6, .sipush 6, .if_icmp .ge 158, .iload 5, .ifCond .eq 158, .aload 0, .iload 6, .sipush 0, .invokevirtual 22, .istore 7, .sipush 0, .istore 8, .sipush 1, .istore 9, .iload 9, .sipush 6, .if_icmp .ge 124, .iload 8, .iload 7, .iload 9, .ishr, .sipush 1, .iand, .sipush 1, .if_icmp .ne 119, .aload 0, .iload 9, .sipush 1, .isub, .sipush 3, .invokevirtual 20, .invokestatic 194, .goto 120, .sipush 0, .iadd, .istore 8, .iinc 9 1, .goto 100, .iload 2, .iload 7, .iand, .ifCond .ne 136, .aload 0, .iload 6, .sipush 3, .invokevirtual 22, .iload 8, .if_icmp .ne 136, .sipush 1, .goto 137, .sipush 0, .istore 5, .iload 2, .iload 7, .ior, .istore 2, .iload 3, .aload 0, .iload 6, .sipush 1, .invokevirtual 22, .iadd, .istore 3, .iload 4, .aload 0, .iload 6, .sipush 2, .invokevirtual 22, .iadd, .istore 4, .iinc 6 1, .goto 86, .iload 5, .ifCond .eq 183, .iload 2, .sipush 63, .if_icmp .ne 183, .iload 3, .aload 0, .sipush 0, .invokevirtual 24, .if_icmp .ne 183, .iload 4, .iload 1, .if_icmp .ne 183, .iload 1, .aload 0, .sipush 5, .invokevirtual 24, .if_icmp .ne 183, .iload 1, .aload 0, .sipush 3, .invokevirtual 24, .if_icmp .ne 183, .sipush 1, .goto 184, .sipush 0, .ireturn]
noncomputable abbrev fd_o196 : List (Instr × Nat) := [(.iconst 0, 1), (.istore_n 1, 1), (.iconst 0, 1), (.istore_n 2, 1), (.iconst 0, 1), (.istore_n 3, 1), (.iconst 0, 1), (.istore 4, 2), (.aload_n 0, 1), (.iconst 5, 1), (.iconst 0, 1), (.invokevirtual 28, 3), (.iconst (-1), 1), (.if_icmp .ne 7, 3), (.iconst 1, 1), (.goto 4, 3), (.iconst 0, 1), (.istore 5, 2), (.iconst 0, 1), (.istore 6, 2), (.iload 6, 2), (.iconst 5, 1), (.if_icmp .ge 113, 3), (.iload 5, 2), (.ifCond .eq 108, 3), (.aload_n 0, 1), (.iload 6, 2), (.iconst 3, 1), (.invokevirtual 15, 3), (.istore 7, 2), (.aload_n 0, 1), (.iload 6, 2), (.iconst 1, 1), (.iadd, 1), (.iconst 2, 1), (.invokevirtual 15, 3), (.istore 8, 2), (.iload_n 1, 1), (.iload 7, 2), (.iload 8, 2), (.ixor, 1), (.invokestatic 19, 3), (.iadd, 1), (.istore_n 1, 1), (.aload_n 0, 1), (.iload 6, 2), (.iconst 0, 1), (.invokevirtual 28, 3), (.iload 7, 2), (.if_icmp .ne 56, 3), (.aload_n 0, 1), (.iload 6, 2), (.iconst 1, 1), (.invokevirtual 28, 3), (.iload 7, 2), (.iload 8, 2), (.iand, 1), (.if_icmp .ne 41, 3), (.aload_n 0, 1), (.iload 6, 2), (.iconst 2, 1), (.invokevirtual 28, 3), (.iload 7, 2), (.iload 8, 2), (.iconst (-1), 1), (.ixor, 1), (.iand, 1), (.if_icmp .ne 24, 3), (.aload_n 0, 1), (.iload 6, 2), (.iconst 3, 1), (.invokevirtual 28, 3), (.iload 8, 2), (.iload 7, 2), (.iconst (-1), 1), (.ixor, 1), (.iand, 1), (.if_icmp .ne 7, 3), (.iconst 1, 1), (.goto 4, 3), (.iconst 0, 1), (.istore 5, 2), (.iinc 6 1, 3), (.goto (-113), 3), (.iconst 0, 1), (.istore 6, 2), (.iload 6, 2), (.bipush 6, 2), (.if_icmp .ge 127, 3), (.iload 5, 2), (.ifCond .eq 122, 3), (.aload_n 0, 1), (.iload 6, 2), (.iconst 0, 1), (.invokevirtual 31, 3), (.istore 7, 2), (.iconst 0, 1), (.istore 8, 2), (.iconst 1, 1), (.istore 9, 2), (.iload 9, 2), (.bipush 6, 2), (.if_icmp .ge 41, 3), (.iload 8, 2), (.iload 7, 2), (.iload 9, 2), (.ishr, 1), (.iconst 1, 1), (.iand, 1), (.iconst 1, 1), (.if_icmp .ne 18, 3), (.aload_n 0, 1), (.iload 9, 2), (.iconst 1, 1), (.isub, 1), (.iconst 3, 1), (.invokevirtual 28, 3), (.invokestatic 19, 3), (.goto 4, 3), (.iconst 0, 1), (.iadd, 1), (.istore 8, 2), (.iinc 9 1, 3), (.goto (-42), 3), (.iload_n 2, 1), (.iload 7, 2), (.iand, 1), (.ifCond .ne 19, 3), (.aload_n 0, 1), (.iload 6, 2), (.iconst 3, 1), (.invokevirtual 31, 3), (.iload 8, 2), (.if_icmp .ne 7, 3), (.iconst 1, 1), (.goto 4, 3), (.iconst 0, 1), (.istore 5, 2), (.iload_n 2, 1), (.iload 7, 2), (.ior, 1), (.istore_n 2, 1), (.iload_n 3, 1), (.aload_n 0, 1), (.iload 6, 2), (.iconst 1, 1), (.invokevirtual 31, 3), (.iadd, 1), (.istore_n 3, 1), (.iload 4, 2), (.aload_n 0, 1), (.iload 6, 2), (.iconst 2, 1), (.invokevirtual 31, 3), (.iadd, 1), (.istore 4, 2), (.iinc 6 1, 3), (.goto (-128), 3), (.iload 5, 2), (.ifCond .eq 46, 3), (.iload_n 2, 1), (.bipush 63, 2), (.if_icmp .ne 40, 3), (.iload_n 3, 1), (.aload_n 0, 1), (.iconst 0, 1), (.invokevirtual 25, 3), (.if_icmp .ne 31, 3), (.iload 4, 2), (.iload_n 1, 1), (.if_icmp .ne 25, 3), (.iload_n 1, 1), (.aload_n 0, 1), (.iconst 5, 1), (.invokevirtual 25, 3), (.if_icmp .ne 16, 3), (.iload_n 1, 1), (.aload_n 0, 1), (.iconst 3, 1), (.invokevirtual 25, 3), (.if_icmp .ne 7, 3), (.iconst 1, 1), (.goto 4, 3), (.iconst 0, 1), (.ireturn, 1)]
abbrev fd_p196 : List Nat := [0, 1, 2, 3, 4, 5, 6, 7, 9, 10, 11, 12, 15, 16, 19, 20, 23, 24, 26, 27, 29, 31, 32, 35, 37, 40, 41, 43, 44, 47, 49, 50, 52, 53, 54, 55, 58, 60, 61, 63, 65, 66, 69, 70, 71, 72, 74, 75, 78, 80, 83, 84, 86, 87, 90, 92, 94, 95, 98, 99, 101, 102, 105, 107, 109, 110, 111, 112, 115, 116, 118, 119, 122, 124, 126, 127, 128, 129, 132, 133, 136, 137, 139, 142, 145, 146, 148, 150, 152, 155, 157, 160, 161, 163, 164, 167, 169, 170, 172, 173, 175, 177, 179, 182, 184, 186, 188, 189, 190, 191, 192, 195, 196, 198, 199, 200, 201, 204, 207, 210, 211, 212, 214, 217, 220, 221, 223, 224, 227, 228, 230, 231, 234, 236, 239, 240, 243, 244, 246, 247, 249, 250, 251, 252, 253, 255, 256, 259, 260, 261, 263, 264, 266, 267, 270, 271, 273, 276, 279, 281, 284, 285, 287, 290, 291, 292, 293, 296, 299, 301, 302, 305, 306, 307, 308, 311, 314, 315, 316, 317, 320, 323, 324, 327, 328, 329]
-- 197: FoldedStripsLaw.areLines(LFoldedStrips;)Z
noncomputable abbrev fd_c197 : List Instr := [.sipush 0, .istore 1, .sipush 0, .istore 2, .sipush 0, .istore 3, .sipush 0, .istore 4, .aload 0, .aload 0, .sipush 1, .invokevirtual 24, .sipush 0, .invokevirtual 23, .sipush (-1), .if_icmp .ne 24, .aload 0, .sipush (-1), .sipush 0, .invokevirtual 23, .sipush (-1), .if_icmp .ne 24, .sipush 1, .goto 25, .sipush 0, .istore 5, .sipush 0, .istore 6, .iload 6, .aload 0, .sipush 1, .invokevirtual 24, .if_icmp .ge 203, .iload 5, .ifCond .eq 203, .aload 0, .iload 6, .sipush 0, .invokevirtual 23, .istore 7, .aload 0, .iload 6, .sipush 4, .invokevirtual 23, .istore 8, .aload 0, .iload 6, .sipush 5, .invokevirtual 23, .istore 9, .aload 0, .iload 6, .sipush 1, .invokevirtual 23, .sipush 1, .if_icmp .ne 58, .sipush 1, .goto 59, .sipush 0, .istore 10, .iload 1, .iload 7, .iadd, .istore 1, .iload 2, .iload 10, .ifCond .eq 69, .sipush 1, .goto 70, .sipush 0, .iadd, .istore 2, .iload 7, .iload 3, .if_icmp .le 77, .iload 7, .goto 78, .iload 3, .istore 3, .iload 7, .sipush 1, .if_icmp .lt 143, .iload 10, .ifCond .eq 94, .iload 8, .sipush (-6), .if_icmp .ne 143, .iload 9, .sipush (-6), .if_icmp .ne 143, .iload 7, .sipush 2, .if_icmp .lt 143, .goto 141, .iload 8, .iload 9, .if_icmp .ge 143, .aload 0, .iload 8, .sipush 24, .idiv, .iload 8, .sipush 24, .irem, .sipush 2, .invokevirtual 16, .iload 6, .if_icmp .ne 143, .aload 0, .iload 9, .sipush 24, .idiv, .iload 9, .sipush 24, .irem, .sipush 2, .invokevirtual 16, .iload 6, .if_icmp .ne 143, .aload 0, .iload 8, .sipush 24, .idiv, .iload 8, .sipush 24, .irem, .sipush 1, .invokevirtual 16, .sipush 2, .if_icmp .lt 143, .aload 0, .iload 9, .sipush 24, .idiv, .iload 9, .sipush 24, .irem, .sipush 1, .invokevirtual 16, .sipush 2, .if_icmp .lt 143, .sipush 1, .goto 144, .sipush 0, .istore 5, .iload 4, .iload 10, .ifCond .ne 156, .iload 8, .sipush 12, .if_icmp .ge 156, .iload 9, .sipush 132, .if_icmp .lt 156, .sipush 1, .goto 157, .sipush 0, .iadd, .istore 4, .sipush 0, .istore 11, .sipush 0, .istore 12, .iload 12, .sipush 6, .if_icmp .ge 189, .iload 11, .aload 0, .iload 6, .sipush 2, .invokevirtual 23, .iload 12, .ishr, .sipush 1, .iand, .sipush 1, .if_icmp .ne 184, .sipush 1, .aload 0, .iload 12, .sipush 1, .invokevirtual 19, .ishl, .goto 185, .sipush 0, .ior, .istore 11, .iinc 12 1, .goto 163, .iload 5, .ifCond .eq 199, .iload 11, .aload 0, .iload 6, .sipush 3, .invokevirtual 23, .if_icmp .ne 199, .sipush 1, .goto 200, .sipush 0, .istore 5, .iinc 6 1, .goto 28, .iload 5, .ifCond .eq 227, .iload 1, .aload 0, .sipush 0, .invokevirtual 24, .if_icmp .ne 227, .iload 2, .aload 0, .sipush 2, .invokevirtual 24, .if_icmp .ne 227, .iload 3, .aload 0, .sipush 7, .invokevirtual 24, .if_icmp .ne 227, .iload 4, .aload 0, .sipush 8, .invokevirtual 24, .if_icmp .ne 227, .sipush 1, .goto 228, .sipush 0, .ireturn]
noncomputable abbrev fd_o197 : List (Instr × Nat) := [(.iconst 0, 1), (.istore_n 1, 1), (.iconst 0, 1), (.istore_n 2, 1), (.iconst 0, 1), (.istore_n 3, 1), (.iconst 0, 1), (.istore 4, 2), (.aload_n 0, 1), (.aload_n 0, 1), (.iconst 1, 1), (.invokevirtual 25, 3), (.iconst 0, 1), (.invokevirtual 34, 3), (.iconst (-1), 1), (.if_icmp .ne 17, 3), (.aload_n 0, 1), (.iconst (-1), 1), (.iconst 0, 1), (.invokevirtual 34, 3), (.iconst (-1), 1), (.if_icmp .ne 7, 3), (.iconst 1, 1), (.goto 4, 3), (.iconst 0, 1), (.istore 5, 2), (.iconst 0, 1), (.istore 6, 2), (.iload 6, 2), (.aload_n 0, 1), (.iconst 1, 1), (.invokevirtual 25, 3), (.if_icmp .ge 323, 3), (.iload 5, 2), (.ifCond .eq 318, 3), (.aload_n 0, 1), (.iload 6, 2), (.iconst 0, 1), (.invokevirtual 34, 3), (.istore 7, 2), (.aload_n 0, 1), (.iload 6, 2), (.iconst 4, 1), (.invokevirtual 34, 3), (.istore 8, 2), (.aload_n 0, 1), (.iload 6, 2), (.iconst 5, 1), (.invokevirtual 34, 3), (.istore 9, 2), (.aload_n 0, 1), (.iload 6, 2), (.iconst 1, 1), (.invokevirtual 34, 3), (.iconst 1, 1), (.if_icmp .ne 7, 3), (.iconst 1, 1), (.goto 4, 3), (.iconst 0, 1), (.istore 10, 2), (.iload_n 1, 1), (.iload 7, 2), (.iadd, 1), (.istore_n 1, 1), (.iload_n 2, 1), (.iload 10, 2), (.ifCond .eq 7, 3), (.iconst 1, 1), (.goto 4, 3), (.iconst 0, 1), (.iadd, 1), (.istore_n 2, 1), (.iload 7, 2), (.iload_n 3, 1), (.if_icmp .le 8, 3), (.iload 7, 2), (.goto 4, 3), (.iload_n 3, 1), (.istore_n 3, 1), (.iload 7, 2), (.iconst 1, 1), (.if_icmp .lt 120, 3), (.iload 10, 2), (.ifCond .eq 26, 3), (.iload 8, 2), (.bipush (-6), 2), (.if_icmp .ne 108, 3), (.iload 9, 2), (.bipush (-6), 2), (.if_icmp .ne 101, 3), (.iload 7, 2), (.iconst 2, 1), (.if_icmp .lt 95, 3), (.goto 88, 3), (.iload 8, 2), (.iload 9, 2), (.if_icmp .ge 85, 3), (.aload_n 0, 1), (.iload 8, 2), (.bipush 24, 2), (.idiv, 1), (.iload 8, 2), (.bipush 24, 2), (.irem, 1), (.iconst 2, 1), (.invokevirtual 9, 3), (.iload 6, 2), (.if_icmp .ne 65, 3), (.aload_n 0, 1), (.iload 9, 2), (.bipush 24, 2), (.idiv, 1), (.iload 9, 2), (.bipush 24, 2), (.irem, 1), (.iconst 2, 1), (.invokevirtual 9, 3), (.iload 6, 2), (.if_icmp .ne 45, 3), (.aload_n 0, 1), (.iload 8, 2), (.bipush 24, 2), (.idiv, 1), (.iload 8, 2), (.bipush 24, 2), (.irem, 1), (.iconst 1, 1), (.invokevirtual 9, 3), (.iconst 2, 1), (.if_icmp .lt 26, 3), (.aload_n 0, 1), (.iload 9, 2), (.bipush 24, 2), (.idiv, 1), (.iload 9, 2), (.bipush 24, 2), (.irem, 1), (.iconst 1, 1), (.invokevirtual 9, 3), (.iconst 2, 1), (.if_icmp .lt 7, 3), (.iconst 1, 1), (.goto 4, 3), (.iconst 0, 1), (.istore 5, 2), (.iload 4, 2), (.iload 10, 2), (.ifCond .ne 22, 3), (.iload 8, 2), (.bipush 12, 2), (.if_icmp .ge 15, 3), (.iload 9, 2), (.sipush 132, 3), (.if_icmp .lt 7, 3), (.iconst 1, 1), (.goto 4, 3), (.iconst 0, 1), (.iadd, 1), (.istore 4, 2), (.iconst 0, 1), (.istore 11, 2), (.iconst 0, 1), (.istore 12, 2), (.iload 12, 2), (.bipush 6, 2), (.if_icmp .ge 43, 3), (.iload 11, 2), (.aload_n 0, 1), (.iload 6, 2), (.iconst 2, 1), (.invokevirtual 34, 3), (.iload 12, 2), (.ishr, 1), (.iconst 1, 1), (.iand, 1), (.iconst 1, 1), (.if_icmp .ne 15, 3), (.iconst 1, 1), (.aload_n 0, 1), (.iload 12, 2), (.iconst 1, 1), (.invokevirtual 15, 3), (.ishl, 1), (.goto 4, 3), (.iconst 0, 1), (.ior, 1), (.istore 11, 2), (.iinc 12 1, 3), (.goto (-44), 3), (.iload 5, 2), (.ifCond .eq 19, 3), (.iload 11, 2), (.aload_n 0, 1), (.iload 6, 2), (.iconst 3, 1), (.invokevirtual 34, 3), (.if_icmp .ne 7, 3), (.iconst 1, 1), (.goto 4, 3), (.iconst 0, 1), (.istore 5, 2), (.iinc 6 1, 3), (.goto (-327), 3), (.iload 5, 2), (.ifCond .eq 46, 3), (.iload_n 1, 1), (.aload_n 0, 1), (.iconst 0, 1), (.invokevirtual 25, 3), (.if_icmp .ne 37, 3), (.iload_n 2, 1), (.aload_n 0, 1), (.iconst 2, 1), (.invokevirtual 25, 3), (.if_icmp .ne 28, 3), (.iload_n 3, 1), (.aload_n 0, 1), (.bipush 7, 2), (.invokevirtual 25, 3), (.if_icmp .ne 18, 3), (.iload 4, 2), (.aload_n 0, 1), (.bipush 8, 2), (.invokevirtual 25, 3), (.if_icmp .ne 7, 3), (.iconst 1, 1), (.goto 4, 3), (.iconst 0, 1), (.ireturn, 1)]
abbrev fd_p197 : List Nat := [0, 1, 2, 3, 4, 5, 6, 7, 9, 10, 11, 12, 15, 16, 19, 20, 23, 24, 25, 26, 29, 30, 33, 34, 37, 38, 40, 41, 43, 45, 46, 47, 50, 53, 55, 58, 59, 61, 62, 65, 67, 68, 70, 71, 74, 76, 77, 79, 80, 83, 85, 86, 88, 89, 92, 93, 96, 97, 100, 101, 103, 104, 106, 107, 108, 109, 111, 114, 115, 118, 119, 120, 121, 123, 124, 127, 129, 132, 133, 134, 136, 137, 140, 142, 145, 147, 149, 152, 154, 156, 159, 161, 162, 165, 168, 170, 172, 175, 176, 178, 180, 181, 183, 185, 186, 187, 190, 192, 195, 196, 198, 200, 201, 203, 205, 206, 207, 210, 212, 215, 216, 218, 220, 221, 223, 225, 226, 227, 230, 231, 234, 235, 237, 239, 240, 242, 244, 245, 246, 249, 250, 253, 254, 257, 258, 260, 262, 264, 267, 269, 271, 274, 276, 279, 282, 283, 286, 287, 288, 290, 291, 293, 294, 296, 298, 300, 303, 305, 306, 308, 309, 312, 314, 315, 316, 317, 318, 321, 322, 323, 325, 326, 329, 330, 333, 334, 335, 337, 340, 343, 345, 348, 350, 351, 353, 354, 357, 360, 361, 364, 365, 367, 370, 373, 375, 378, 379, 380, 381, 384, 387, 388, 389, 390, 393, 396, 397, 398, 400, 403, 406, 408, 409, 411, 414, 417, 418, 421, 422, 423]
-- 198: FoldedStripsLaw.acts(LFoldedStrips;I)Z
noncomputable abbrev fd_c198 : List Instr := [.iload 1, .sipush 4, .ishr, .sipush 6, .irem, .istore 2, .iload 1, .sipush 7, .ishr, .sipush 24, .irem, .istore 3, .iload 1, .sipush 12, .ishr, .sipush 24, .irem, .istore 4, .aload 0, .sipush 0, .invokevirtual 24, .istore 5, .aload 0, .iload 2, .sipush 0, .invokevirtual 19, .istore 6, .aload 0, .iload 2, .iload 3, .sipush 0, .invokevirtual 16, .ifCond .lt 35, .sipush 1, .goto 36, .sipush 0, .istore 7, .iload 1, .sipush 11, .irem, .tableswitch 407 0 9 #[41, 41, 41, 41, 97, 138, 205, 271, 324, 380], .iload 3, .iload 4, .if_icmp .eq 54, .iload 7, .ifCond .ne 54, .aload 0, .iload 2, .iload 4, .sipush 0, .invokevirtual 16, .ifCond .ge 54, .sipush 1, .goto 55, .sipush 0, .istore 8, .aload 0, .iload 2, .iload 3, .iload 4, .invokevirtual 8, .istore 9, .iload 3, .iload 4, .if_icmp .ne 72, .iload 9, .sipush (-2), .if_icmp .ne 70, .sipush 1, .goto 96, .sipush 0, .goto 96, .iload 8, .ifCond .eq 90, .iload 9, .iload 6, .sipush 1, .iadd, .if_icmp .ne 88, .aload 0, .iload 2, .iload 3, .sipush 0, .invokevirtual 16, .iload 4, .if_icmp .ne 88, .sipush 1, .goto 96, .sipush 0, .goto 96, .iload 9, .sipush (-5), .if_icmp .ne 95, .sipush 1, .goto 96, .sipush 0, .ireturn, .aload 0, .iload 2, .iload 3, .sipush 0, .invokevirtual 16, .istore 10, .aload 0, .iload 2, .iload 3, .invokevirtual 9, .istore 11, .iload 7, .ifCond .eq 131, .iload 11, .iload 10, .if_icmp .ne 129, .aload 0, .sipush 0, .invokevirtual 24, .iload 5, .sipush 1, .isub, .if_icmp .ne 129, .aload 0, .iload 2, .iload 10, .sipush 0, .invokevirtual 16, .sipush (-6), .if_icmp .ne 129, .sipush 1, .goto 137, .sipush 0, .goto 137, .iload 11, .sipush (-5), .if_icmp .ne 136, .sipush 1, .goto 137, .sipush 0, .ireturn, .iload 1, .sipush 7, .ishr, .sipush 3, .irem, .ifCond .ne 151, .aload 0, .iload 2, .sipush 0, .invokevirtual 26, .sipush 20, .isub, .goto 158, .iload 1, .sipush 12, .ishr, .sipush 23, .irem, .sipush 11, .isub, .istore 12, .aload 0, .iload 2, .sipush 1, .invokevirtual 26, .istore 13, .iload 12, .ifCond .ne 170, .aload 0, .sipush 3, .invokevirtual 24, .goto 174, .aload 0, .iload 2, .iload 12, .invokevirtual 11, .istore 14, .iload 14, .sipush (-5), .if_icmp .eq 186, .iload 14, .aload 0, .sipush 3, .invokevirtual 24, .if_icmp .ne 203, .iload 14, .iload 13, .if_icmp .lt 203, .iload 1, .sipush 7, .ishr, .sipush 3, .irem, .ifCond .gt 195, .iload 14, .iload 13, .if_icmp .ne 203, .aload 0, .iload 2, .sipush 0, .invokevirtual 19, .iload 6, .if_icmp .ne 203, .sipush 1, .goto 204, .sipush 0, .ireturn, .iload 1, .sipush 7, .ishr, .sipush 3, .irem, .istore 15, .aload 0, .iload 2, .iload 15, .sipush 0, .invokevirtual 30, .istore 16, .aload 0, .iload 2, .iload 15, .sipush 1, .invokevirtual 30, .istore 17, .aload 0, .iload 2, .iload 15, .sipush 2, .invokevirtual 30, .istore 18, .aload 0, .iload 2, .sipush 4, .invokevirtual 19, .istore 19, .aload 0, .iload 2, .iload 15, .invokevirtual 12, .iload 16, .if_icmp .ne 269, .aload 0, .sipush 3, .invokevirtual 24, .iload 16, .if_icmp .ne 269, .aload 0, .sipush 1, .invokevirtual 24, .iload 17, .if_icmp .ne 269, .aload 0, .sipush 2, .invokevirtual 24, .iload 18, .if_icmp .ne 269, .aload 0, .iload 2, .sipush 4, .invokevirtual 19, .iload 19, .if_icmp .ne 269, .aload 0, .iload 2, .sipush 0, .invokevirtual 19, .iload 6, .if_icmp .ne 269, .sipush 1, .goto 270, .sipush 0, .ireturn, .iload 1, .sipush 7, .ishr, .sipush 6, .irem, .istore 20, .aload 0, .sipush 1, .invokevirtual 28, .istore 21, .aload 0, .iload 20, .sipush 1, .invokevirtual 19, .istore 22, .aload 0, .iload 2, .iload 20, .invokevirtual 14, .istore 23, .iload 2, .iload 20, .if_icmp .ne 301, .iload 23, .sipush (-5), .if_icmp .ne 299, .sipush 1, .goto 323, .sipush 0, .goto 323, .iload 23, .aload 0, .sipush 3, .invokevirtual 24, .if_icmp .ne 322, .iload 23, .iload 21, .if_icmp .lt 322, .aload 0, .iload 2, .sipush 1, .invokevirtual 19, .iload 22, .if_icmp .ne 322, .aload 0, .sipush 0, .invokevirtual 24, .iload 5, .if_icmp .ne 322, .sipush 1, .goto 323, .sipush 0, .ireturn, .iload 2, .ifCond .ne 328, .sipush 0, .goto 341, .aload 0, .iload 2, .sipush 1, .isub, .sipush 2, .invokevirtual 20, .aload 0, .iload 2, .sipush 3, .invokevirtual 19, .sipush (-1), .ixor, .iand, .istore 24, .aload 0, .iload 2, .invokevirtual 15, .istore 25, .iload 2, .ifCond .ne 355, .iload 25, .sipush (-1), .if_icmp .ne 353, .sipush 1, .goto 379, .sipush 0, .goto 379, .iload 25, .iload 24, .invokestatic 194, .if_icmp .ne 378, .aload 0, .iload 2, .sipush 0, .invokevirtual 19, .iload 6, .iload 25, .iadd, .if_icmp .ne 378, .aload 0, .iload 2, .sipush 1, .isub, .sipush 2, .invokevirtual 20, .iload 24, .iand, .ifCond .ne 378, .sipush 1, .goto 379, .sipush 0, .ireturn, .iload 1, .sipush 7, .ishr, .sipush 4, .irem, .ifCond .gt 403, .aload 0, .iload 2, .invokevirtual 10, .iload 6, .if_icmp .ne 405, .aload 0, .iload 2, .sipush 0, .invokevirtual 19, .ifCond .ne 405, .aload 0, .sipush 0, .invokevirtual 24, .iload 5, .iload 6, .isub, .if_icmp .ne 405, .sipush 1, .goto 406, .sipush 0, .ireturn, .aload 0, .sipush 0, .invokevirtual 28, .istore 26, .aload 0, .sipush 1, .invokevirtual 28, .istore 27, .aload 0, .iload 26, .sipush 10, .idiv, .iload 26, .sipush 10, .irem, .invokevirtual 14, .iload 27, .if_icmp .ne 434, .iload 26, .sipush 10, .idiv, .iload 26, .sipush 10, .irem, .if_icmp .ge 434, .sipush 1, .goto 435, .sipush 0, .ireturn]
noncomputable abbrev fd_o198 : List (Instr × Nat) := [(.iload_n 1, 1), (.iconst 4, 1), (.ishr, 1), (.bipush 6, 2), (.irem, 1), (.istore_n 2, 1), (.iload_n 1, 1), (.bipush 7, 2), (.ishr, 1), (.bipush 24, 2), (.irem, 1), (.istore_n 3, 1), (.iload_n 1, 1), (.bipush 12, 2), (.ishr, 1), (.bipush 24, 2), (.irem, 1), (.istore 4, 2), (.aload_n 0, 1), (.iconst 0, 1), (.invokevirtual 25, 3), (.istore 5, 2), (.aload_n 0, 1), (.iload_n 2, 1), (.iconst 0, 1), (.invokevirtual 15, 3), (.istore 6, 2), (.aload_n 0, 1), (.iload_n 2, 1), (.iload_n 3, 1), (.iconst 0, 1), (.invokevirtual 9, 3), (.ifCond .lt 7, 3), (.iconst 1, 1), (.goto 4, 3), (.iconst 0, 1), (.istore 7, 2), (.iload_n 1, 1), (.bipush 11, 2), (.irem, 1), (.tableswitch 716 0 9 #[56, 56, 56, 56, 163, 238, 358, 474, 573, 669], 56), (.iload_n 3, 1), (.iload 4, 2), (.if_icmp .eq 23, 3), (.iload 7, 2), (.ifCond .ne 18, 3), (.aload_n 0, 1), (.iload_n 2, 1), (.iload 4, 2), (.iconst 0, 1), (.invokevirtual 9, 3), (.ifCond .ge 7, 3), (.iconst 1, 1), (.goto 4, 3), (.iconst 0, 1), (.istore 8, 2), (.aload_n 0, 1), (.iload_n 2, 1), (.iload_n 3, 1), (.iload 4, 2), (.invokevirtual 37, 3), (.istore 9, 2), (.iload_n 3, 1), (.iload 4, 2), (.if_icmp .ne 18, 3), (.iload 9, 2), (.bipush (-2), 2), (.if_icmp .ne 7, 3), (.iconst 1, 1), (.goto 53, 3), (.iconst 0, 1), (.goto 49, 3), (.iload 8, 2), (.ifCond .eq 32, 3), (.iload 9, 2), (.iload 6, 2), (.iconst 1, 1), (.iadd, 1), (.if_icmp .ne 19, 3), (.aload_n 0, 1), (.iload_n 2, 1), (.iload_n 3, 1), (.iconst 0, 1), (.invokevirtual 9, 3), (.iload 4, 2), (.if_icmp .ne 7, 3), (.iconst 1, 1), (.goto 19, 3), (.iconst 0, 1), (.goto 15, 3), (.iload 9, 2), (.bipush (-5), 2), (.if_icmp .ne 7, 3), (.iconst 1, 1), (.goto 4, 3), (.iconst 0, 1), (.ireturn, 1), (.aload_n 0, 1), (.iload_n 2, 1), (.iload_n 3, 1), (.iconst 0, 1), (.invokevirtual 9, 3), (.istore 10, 2), (.aload_n 0, 1), (.iload_n 2, 1), (.iload_n 3, 1), (.invokevirtual 40, 3), (.istore 11, 2), (.iload 7, 2), (.ifCond .eq 43, 3), (.iload 11, 2), (.iload 10, 2), (.if_icmp .ne 32, 3), (.aload_n 0, 1), (.iconst 0, 1), (.invokevirtual 25, 3), (.iload 5, 2), (.iconst 1, 1), (.isub, 1), (.if_icmp .ne 20, 3), (.aload_n 0, 1), (.iload_n 2, 1), (.iload 10, 2), (.iconst 0, 1), (.invokevirtual 9, 3), (.bipush (-6), 2), (.if_icmp .ne 7, 3), (.iconst 1, 1), (.goto 19, 3), (.iconst 0, 1), (.goto 15, 3), (.iload 11, 2), (.bipush (-5), 2), (.if_icmp .ne 7, 3), (.iconst 1, 1), (.goto 4, 3), (.iconst 0, 1), (.ireturn, 1), (.iload_n 1, 1), (.bipush 7, 2), (.ishr, 1), (.iconst 3, 1), (.irem, 1), (.ifCond .ne 15, 3), (.aload_n 0, 1), (.iload_n 2, 1), (.iconst 0, 1), (.invokevirtual 43, 3), (.bipush 20, 2), (.isub, 1), (.goto 13, 3), (.iload_n 1, 1), (.bipush 12, 2), (.ishr, 1), (.bipush 23, 2), (.irem, 1), (.bipush 11, 2), (.isub, 1), (.istore 12, 2), (.aload_n 0, 1), (.iload_n 2, 1), (.iconst 1, 1), (.invokevirtual 43, 3), (.istore 13, 2), (.iload 12, 2), (.ifCond .ne 11, 3), (.aload_n 0, 1), (.iconst 3, 1), (.invokevirtual 25, 3), (.goto 10, 3), (.aload_n 0, 1), (.iload_n 2, 1), (.iload 12, 2), (.invokevirtual 46, 3), (.istore 14, 2), (.iload 14, 2), (.bipush (-5), 2), (.if_icmp .eq 20, 3), (.iload 14, 2), (.aload_n 0, 1), (.iconst 3, 1), (.invokevirtual 25, 3), (.if_icmp .ne 41, 3), (.iload 14, 2), (.iload 13, 2), (.if_icmp .lt 34, 3), (.iload_n 1, 1), (.bipush 7, 2), (.ishr, 1), (.iconst 3, 1), (.irem, 1), (.ifCond .gt 10, 3), (.iload 14, 2), (.iload 13, 2), (.if_icmp .ne 18, 3), (.aload_n 0, 1), (.iload_n 2, 1), (.iconst 0, 1), (.invokevirtual 15, 3), (.iload 6, 2), (.if_icmp .ne 7, 3), (.iconst 1, 1), (.goto 4, 3), (.iconst 0, 1), (.ireturn, 1), (.iload_n 1, 1), (.bipush 7, 2), (.ishr, 1), (.iconst 3, 1), (.irem, 1), (.istore 15, 2), (.aload_n 0, 1), (.iload_n 2, 1), (.iload 15, 2), (.iconst 0, 1), (.invokevirtual 49, 3), (.istore 16, 2), (.aload_n 0, 1), (.iload_n 2, 1), (.iload 15, 2), (.iconst 1, 1), (.invokevirtual 49, 3), (.istore 17, 2), (.aload_n 0, 1), (.iload_n 2, 1), (.iload 15, 2), (.iconst 2, 1), (.invokevirtual 49, 3), (.istore 18, 2), (.aload_n 0, 1), (.iload_n 2, 1), (.iconst 4, 1), (.invokevirtual 15, 3), (.istore 19, 2), (.aload_n 0, 1), (.iload_n 2, 1), (.iload 15, 2), (.invokevirtual 52, 3), (.iload 16, 2), (.if_icmp .ne 59, 3), (.aload_n 0, 1), (.iconst 3, 1), (.invokevirtual 25, 3), (.iload 16, 2), (.if_icmp .ne 49, 3), (.aload_n 0, 1), (.iconst 1, 1), (.invokevirtual 25, 3), (.iload 17, 2), (.if_icmp .ne 39, 3), (.aload_n 0, 1), (.iconst 2, 1), (.invokevirtual 25, 3), (.iload 18, 2), (.if_icmp .ne 29, 3), (.aload_n 0, 1), (.iload_n 2, 1), (.iconst 4, 1), (.invokevirtual 15, 3), (.iload 19, 2), (.if_icmp .ne 18, 3), (.aload_n 0, 1), (.iload_n 2, 1), (.iconst 0, 1), (.invokevirtual 15, 3), (.iload 6, 2), (.if_icmp .ne 7, 3), (.iconst 1, 1), (.goto 4, 3), (.iconst 0, 1), (.ireturn, 1), (.iload_n 1, 1), (.bipush 7, 2), (.ishr, 1), (.bipush 6, 2), (.irem, 1), (.istore 20, 2), (.aload_n 0, 1), (.iconst 1, 1), (.invokevirtual 55, 3), (.istore 21, 2), (.aload_n 0, 1), (.iload 20, 2), (.iconst 1, 1), (.invokevirtual 15, 3), (.istore 22, 2), (.aload_n 0, 1), (.iload_n 2, 1), (.iload 20, 2), (.invokevirtual 58, 3), (.istore 23, 2), (.iload_n 2, 1), (.iload 20, 2), (.if_icmp .ne 18, 3), (.iload 23, 2), (.bipush (-5), 2), (.if_icmp .ne 7, 3), (.iconst 1, 1), (.goto 50, 3), (.iconst 0, 1), (.goto 46, 3), (.iload 23, 2), (.aload_n 0, 1), (.iconst 3, 1), (.invokevirtual 25, 3), (.if_icmp .ne 35, 3), (.iload 23, 2), (.iload 21, 2), (.if_icmp .lt 28, 3), (.aload_n 0, 1), (.iload_n 2, 1), (.iconst 1, 1), (.invokevirtual 15, 3), (.iload 22, 2), (.if_icmp .ne 17, 3), (.aload_n 0, 1), (.iconst 0, 1), (.invokevirtual 25, 3), (.iload 5, 2), (.if_icmp .ne 7, 3), (.iconst 1, 1), (.goto 4, 3), (.iconst 0, 1), (.ireturn, 1), (.iload_n 2, 1), (.ifCond .ne 7, 3), (.iconst 0, 1), (.goto 20, 3), (.aload_n 0, 1), (.iload_n 2, 1), (.iconst 1, 1), (.isub, 1), (.iconst 2, 1), (.invokevirtual 28, 3), (.aload_n 0, 1), (.iload_n 2, 1), (.iconst 3, 1), (.invokevirtual 15, 3), (.iconst (-1), 1), (.ixor, 1), (.iand, 1), (.istore 24, 2), (.aload_n 0, 1), (.iload_n 2, 1), (.invokevirtual 61, 3), (.istore 25, 2), (.iload_n 2, 1), (.ifCond .ne 17, 3), (.iload 25, 2), (.iconst (-1), 1), (.if_icmp .ne 7, 3), (.iconst 1, 1), (.goto 50, 3), (.iconst 0, 1), (.goto 46, 3), (.iload 25, 2), (.iload 24, 2), (.invokestatic 19, 3), (.if_icmp .ne 35, 3), (.aload_n 0, 1), (.iload_n 2, 1), (.iconst 0, 1), (.invokevirtual 15, 3), (.iload 6, 2), (.iload 25, 2), (.iadd, 1), (.if_icmp .ne 21, 3), (.aload_n 0, 1), (.iload_n 2, 1), (.iconst 1, 1), (.isub, 1), (.iconst 2, 1), (.invokevirtual 28, 3), (.iload 24, 2), (.iand, 1), (.ifCond .ne 7, 3), (.iconst 1, 1), (.goto 4, 3), (.iconst 0, 1), (.ireturn, 1), (.iload_n 1, 1), (.bipush 7, 2), (.ishr, 1), (.iconst 4, 1), (.irem, 1), (.ifCond .gt 35, 3), (.aload_n 0, 1), (.iload_n 2, 1), (.invokevirtual 64, 3), (.iload 6, 2), (.if_icmp .ne 29, 3), (.aload_n 0, 1), (.iload_n 2, 1), (.iconst 0, 1), (.invokevirtual 15, 3), (.ifCond .ne 20, 3), (.aload_n 0, 1), (.iconst 0, 1), (.invokevirtual 25, 3), (.iload 5, 2), (.iload 6, 2), (.isub, 1), (.if_icmp .ne 7, 3), (.iconst 1, 1), (.goto 4, 3), (.iconst 0, 1), (.ireturn, 1), (.aload_n 0, 1), (.iconst 0, 1), (.invokevirtual 55, 3), (.istore 26, 2), (.aload_n 0, 1), (.iconst 1, 1), (.invokevirtual 55, 3), (.istore 27, 2), (.aload_n 0, 1), (.iload 26, 2), (.bipush 10, 2), (.idiv, 1), (.iload 26, 2), (.bipush 10, 2), (.irem, 1), (.invokevirtual 58, 3), (.iload 27, 2), (.if_icmp .ne 20, 3), (.iload 26, 2), (.bipush 10, 2), (.idiv, 1), (.iload 26, 2), (.bipush 10, 2), (.irem, 1), (.if_icmp .ge 7, 3), (.iconst 1, 1), (.goto 4, 3), (.iconst 0, 1), (.ireturn, 1)]
abbrev fd_p198 : List Nat := [0, 1, 2, 3, 5, 6, 7, 8, 10, 11, 13, 14, 15, 16, 18, 19, 21, 22, 24, 25, 26, 29, 31, 32, 33, 34, 37, 39, 40, 41, 42, 43, 46, 49, 50, 53, 54, 56, 57, 59, 60, 116, 117, 119, 122, 124, 127, 128, 129, 131, 132, 135, 138, 139, 142, 143, 145, 146, 147, 148, 150, 153, 155, 156, 158, 161, 163, 165, 168, 169, 172, 173, 176, 178, 181, 183, 185, 186, 187, 190, 191, 192, 193, 194, 197, 199, 202, 203, 206, 207, 210, 212, 214, 217, 218, 221, 222, 223, 224, 225, 226, 227, 230, 232, 233, 234, 235, 238, 240, 242, 245, 247, 249, 252, 253, 254, 257, 259, 260, 261, 264, 265, 266, 268, 269, 272, 274, 277, 278, 281, 282, 285, 287, 289, 292, 293, 296, 297, 298, 299, 301, 302, 303, 304, 307, 308, 309, 310, 313, 315, 316, 319, 320, 322, 323, 325, 326, 328, 329, 331, 332, 333, 334, 337, 339, 341, 344, 345, 346, 349, 352, 353, 354, 356, 359, 361, 363, 365, 368, 370, 371, 372, 375, 378, 380, 382, 385, 386, 388, 389, 390, 391, 394, 396, 398, 401, 402, 403, 404, 407, 409, 412, 413, 416, 417, 418, 419, 421, 422, 423, 424, 426, 427, 428, 430, 431, 434, 436, 437, 438, 440, 441, 444, 446, 447, 448, 450, 451, 454, 456, 457, 458, 459, 462, 464, 465, 466, 468, 471, 473, 476, 477, 478, 481, 483, 486, 487, 488, 491, 493, 496, 497, 498, 501, 503, 506, 507, 508, 509, 512, 514, 517, 518, 519, 520, 523, 525, 528, 529, 532, 533, 534, 535, 537, 538, 540, 541, 543, 544, 545, 548, 550, 551, 553, 554, 557, 559, 560, 561, 563, 566, 568, 569, 571, 574, 576, 578, 581, 582, 585, 586, 589, 591, 592, 593, 596, 599, 601, 603, 606, 607, 608, 609, 612, 614, 617, 618, 619, 622, 624, 627, 628, 631, 632, 633, 634, 637, 638, 641, 642, 643, 644, 645, 646, 649, 650, 651, 652, 655, 656, 657, 658, 660, 661, 662, 665, 667, 668, 671, 673, 674, 677, 678, 681, 682, 685, 687, 689, 692, 695, 696, 697, 698, 701, 703, 705, 706, 709, 710, 711, 712, 713, 714, 717, 719, 720, 723, 724, 727, 728, 729, 730, 732, 733, 734, 735, 738, 739, 740, 743, 745, 748, 749, 750, 751, 754, 757, 758, 759, 762, 764, 766, 767, 770, 771, 774, 775, 776, 777, 778, 781, 783, 784, 785, 788, 790, 791, 793, 795, 796, 798, 800, 801, 804, 806, 809, 811, 813, 814, 816, 818, 819, 822, 823, 826, 827, 828]
def fd_ys : List MethodName := [⟨"", "", ""⟩, ⟨"FoldedStrips", "isPanel", "(I)Z"⟩, ⟨"FoldedStrips", "isHand", "(I)Z"⟩, ⟨"FoldedStrips", "placeOf", "(II)I"⟩, ⟨"FoldedStrips", "isEnd", "(I)Z"⟩, ⟨"FoldedStrips", "upperEdge", "(I)I"⟩, ⟨"FoldedStrips", "isPlace", "(I)Z"⟩, ⟨"FoldedStrips", "lowerEdge", "(I)I"⟩, ⟨"FoldedStrips", "join", "(III)I"⟩, ⟨"FoldedStrips", "rub", "(II)I"⟩, ⟨"FoldedStrips", "clear", "(I)I"⟩, ⟨"FoldedStrips", "slide", "(II)I"⟩, ⟨"FoldedStrips", "turn", "(II)I"⟩, ⟨"FoldedStrips", "isTurn", "(I)Z"⟩, ⟨"FoldedStrips", "exchange", "(II)I"⟩, ⟨"FoldedStrips", "takeUp", "(I)I"⟩, ⟨"FoldedStrips", "end", "(III)I"⟩, ⟨"FoldedStrips", "neighbourOf", "(I)I"⟩, ⟨"FoldedStrips", "panelOf", "(I)I"⟩, ⟨"FoldedStrips", "panel", "(II)I"⟩, ⟨"FoldedStrips", "fold", "(II)I"⟩, ⟨"FoldedStrips", "isFold", "(I)Z"⟩, ⟨"FoldedStrips", "hand", "(II)I"⟩, ⟨"FoldedStrips", "line", "(II)I"⟩, ⟨"FoldedStrips", "count", "(I)I"⟩, ⟨"FoldedStrips", "countOfLines", "(I)I"⟩, ⟨"FoldedStrips", "bestSlide", "(II)I"⟩, ⟨"FoldedStrips", "looseEndsIfSlid", "(II)I"⟩, ⟨"FoldedStrips", "bestExchange", "(I)I"⟩, ⟨"FoldedStrips", "looseEndsIfExchanged", "(II)I"⟩, ⟨"FoldedStrips", "ifTurned", "(III)I"⟩, ⟨"", "", ""⟩, ⟨"", "", ""⟩, ⟨"", "", ""⟩, ⟨"FoldedStrips", "undo", "()I"⟩, ⟨"FoldedStrips", "save", "(I)I"⟩, ⟨"FoldedStrips", "isSlot", "(I)Z"⟩, ⟨"FoldedStrips", "restore", "(I)I"⟩, ⟨"FoldedStrips$History", "remember", "(LFoldedStrips$Strip;)V"⟩, ⟨"FoldedStrips$History", "size", "()I"⟩, ⟨"FoldedStrips$History", "goBack", "(LFoldedStrips$Strip;)V"⟩, ⟨"FoldedStrips$Lines", "trace", "(LFoldedStrips$Strip;)V"⟩, ⟨"FoldedStrips$Lines", "addLine", "(LFoldedStrips$Strip;I)V"⟩, ⟨"FoldedStrips$Lines", "isIndex", "(I)Z"⟩, ⟨"FoldedStrips$Lines", "follow", "(LFoldedStrips$Strip;II)I"⟩, ⟨"FoldedStrips$Lines", "take", "(LFoldedStrips$Strip;III)V"⟩, ⟨"FoldedStrips$Lines", "lineAt", "(I)I"⟩, ⟨"FoldedStrips$Lines", "linesIn", "(I)I"⟩, ⟨"FoldedStrips$Lines", "panelSetOf", "(I)I"⟩, ⟨"FoldedStrips$Lines", "size", "()I"⟩, ⟨"FoldedStrips$Lines", "strokesOf", "(I)I"⟩, ⟨"FoldedStrips$Lines", "isLoop", "(I)Z"⟩, ⟨"FoldedStrips$Lines", "handSetOf", "(I)I"⟩, ⟨"FoldedStrips$Lines", "lesserEndOf", "(I)I"⟩, ⟨"FoldedStrips$Lines", "greaterEndOf", "(I)I"⟩, ⟨"FoldedStrips$Lines", "loops", "()I"⟩, ⟨"FoldedStrips$Lines", "longest", "()I"⟩, ⟨"FoldedStrips$Lines", "fromTopToBottom", "()I"⟩, ⟨"", "", ""⟩, ⟨"", "", ""⟩, ⟨"", "", ""⟩, ⟨"", "", ""⟩, ⟨"", "", ""⟩, ⟨"", "", ""⟩, ⟨"", "", ""⟩, ⟨"", "", ""⟩, ⟨"", "", ""⟩, ⟨"", "", ""⟩, ⟨"", "", ""⟩, ⟨"", "", ""⟩, ⟨"", "", ""⟩, ⟨"FoldedStrips$Pad", "length", "()I"⟩, ⟨"", "", ""⟩, ⟨"", "", ""⟩, ⟨"FoldedStrips$Slots", "keep", "(ILFoldedStrips$Strip;)V"⟩, ⟨"FoldedStrips$Slots", "isKept", "(I)Z"⟩, ⟨"FoldedStrips$Slots", "fetch", "(ILFoldedStrips$Strip;)V"⟩, ⟨"FoldedStrips$Strip", "copyFrom", "(LFoldedStrips$Strip;)V"⟩, ⟨"FoldedStrips$Strip", "erase", "(I)V"⟩, ⟨"", "", ""⟩, ⟨"FoldedStrips$Strip", "link", "(III)V"⟩, ⟨"FoldedStrips$Strip", "strokesIn", "(I)I"⟩, ⟨"FoldedStrips$Strip", "edgeSet", "(I)I"⟩, ⟨"FoldedStrips$Strip", "hasStroke", "(I)Z"⟩, ⟨"FoldedStrips$Strip", "otherEnd", "(I)I"⟩, ⟨"FoldedStrips$Strip", "unlink", "(III)V"⟩, ⟨"FoldedStrips$Strip", "canShift", "(II)Z"⟩, ⟨"FoldedStrips$Strip", "shift", "(II)V"⟩, ⟨"FoldedStrips$Strip", "liftOff", "(I)V"⟩, ⟨"FoldedStrips$Strip", "looseEnds", "()I"⟩, ⟨"FoldedStrips$Strip", "marksAt", "(I)I"⟩, ⟨"FoldedStrips$Strip", "startsAt", "(I)I"⟩, ⟨"FoldedStrips$Strip", "flip", "(II)V"⟩, ⟨"FoldedStrips$Strip", "turnedEnd", "(II)I"⟩, ⟨"FoldedStrips$Strip", "swap", "(II)V"⟩, ⟨"FoldedStrips$Strip", "continueMarks", "(I)I"⟩, ⟨"FoldedStrips$Strip", "missedMarksAt", "(I)I"⟩, ⟨"FoldedStrips$Strip", "howEndIs", "(I)I"⟩, ⟨"FoldedStrips$Strip", "otherPlace", "(I)I"⟩, ⟨"FoldedStrips$Strip", "handOf", "(I)I"⟩, ⟨"FoldedStrips$Strip", "crossingsOf", "(I)I"⟩, ⟨"FoldedStrips$Strip", "isBetween", "(III)Z"⟩, ⟨"FoldedStrips$Strip", "aroundEdge", "(I)I"⟩, ⟨"FoldedStrips$Strip", "crossingPairsIn", "(I)I"⟩, ⟨"FoldedStrips$Strip", "looseEndsIn", "(I)I"⟩, ⟨"FoldedStrips$Strip", "strokesDown", "(I)I"⟩, ⟨"FoldedStrips$Strip", "unmarkedStartsAt", "(I)I"⟩, ⟨"FoldedStrips$Strip", "panelsOf", "(I)I"⟩, ⟨"FoldedStrips$Strip", "strokesOf", "(I)I"⟩, ⟨"FoldedStrips$Strip", "missedMarksOf", "(I)I"⟩, ⟨"FoldedStrips$Strip", "unmarkedStartsOf", "(I)I"⟩, ⟨"FoldedStrips$Strip", "strokes", "()I"⟩, ⟨"FoldedStrips$Strip", "freeEnds", "()I"⟩, ⟨"FoldedStrips$Strip", "crossingPairs", "()I"⟩, ⟨"", "", ""⟩, ⟨"", "", ""⟩, ⟨"", "", ""⟩, ⟨"", "", ""⟩, ⟨"", "", ""⟩, ⟨"", "", ""⟩, ⟨"", "", ""⟩, ⟨"", "", ""⟩, ⟨"", "", ""⟩, ⟨"", "", ""⟩, ⟨"", "", ""⟩, ⟨"", "", ""⟩, ⟨"", "", ""⟩, ⟨"", "", ""⟩, ⟨"", "", ""⟩, ⟨"", "", ""⟩, ⟨"", "", ""⟩, ⟨"", "", ""⟩, ⟨"", "", ""⟩, ⟨"", "", ""⟩, ⟨"", "", ""⟩, ⟨"", "", ""⟩, ⟨"", "", ""⟩, ⟨"", "", ""⟩, ⟨"", "", ""⟩, ⟨"", "", ""⟩, ⟨"", "", ""⟩, ⟨"", "", ""⟩, ⟨"", "", ""⟩, ⟨"", "", ""⟩, ⟨"", "", ""⟩, ⟨"", "", ""⟩, ⟨"", "", ""⟩, ⟨"", "", ""⟩, ⟨"", "", ""⟩, ⟨"", "", ""⟩, ⟨"", "", ""⟩, ⟨"", "", ""⟩, ⟨"", "", ""⟩, ⟨"", "", ""⟩, ⟨"", "", ""⟩, ⟨"", "", ""⟩, ⟨"", "", ""⟩, ⟨"", "", ""⟩, ⟨"", "", ""⟩, ⟨"", "", ""⟩, ⟨"", "", ""⟩, ⟨"", "", ""⟩, ⟨"", "", ""⟩, ⟨"", "", ""⟩, ⟨"", "", ""⟩, ⟨"", "", ""⟩, ⟨"", "", ""⟩, ⟨"", "", ""⟩, ⟨"", "", ""⟩, ⟨"", "", ""⟩, ⟨"", "", ""⟩, ⟨"", "", ""⟩, ⟨"", "", ""⟩, ⟨"", "", ""⟩, ⟨"", "", ""⟩, ⟨"", "", ""⟩, ⟨"", "", ""⟩, ⟨"", "", ""⟩, ⟨"", "", ""⟩, ⟨"", "", ""⟩, ⟨"", "", ""⟩, ⟨"", "", ""⟩, ⟨"java/lang/Integer", "bitCount", "(I)I"⟩, ⟨"java/util/Arrays", "fill", "([II)V"⟩, ⟨"FoldedStrips", "<init>", "()V"⟩, ⟨"FoldedStrips$History", "<init>", "()V"⟩, ⟨"FoldedStrips$Lines", "<init>", "()V"⟩, ⟨"FoldedStrips$Pad", "<init>", "()V"⟩, ⟨"FoldedStrips$Slots", "<init>", "()V"⟩, ⟨"FoldedStrips$Strip", "<init>", "()V"⟩, ⟨"", "", ""⟩, ⟨"FoldedStripsLaw", "law", "([I)Z"⟩, ⟨"FoldedStrips$History", "stateAt", "(I)LFoldedStrips$Strip;"⟩, ⟨"FoldedStripsLaw", "cell", "([II)I"⟩, ⟨"FoldedStripsLaw", "bits", "(I)I"⟩, ⟨"FoldedStripsLaw", "areEnds", "(LFoldedStrips;)Z"⟩, ⟨"FoldedStripsLaw", "areFolds", "(LFoldedStrips;)Z"⟩, ⟨"FoldedStripsLaw", "areLines", "(LFoldedStrips;)Z"⟩, ⟨"FoldedStripsLaw", "acts", "(LFoldedStrips;I)Z"⟩]
def fd_y (j : Nat) : MethodName := fd_ys.getD j ⟨"", "", ""⟩
def fd_bs : List ByteArray := [⟨#[]⟩, prog_1_method_28_code, prog_1_method_32_code, prog_1_method_35_code, prog_1_method_29_code, prog_1_method_37_code, prog_1_method_30_code, prog_1_method_38_code, prog_1_method_3_code, prog_1_method_4_code, prog_1_method_5_code, prog_1_method_6_code, prog_1_method_7_code, prog_1_method_33_code, prog_1_method_8_code, prog_1_method_9_code, prog_1_method_10_code, prog_1_method_39_code, prog_1_method_36_code, prog_1_method_11_code, prog_1_method_12_code, prog_1_method_31_code, prog_1_method_13_code, prog_1_method_14_code, prog_1_method_15_code, prog_1_method_16_code, prog_1_method_17_code, prog_1_method_18_code, prog_1_method_19_code, prog_1_method_20_code, prog_1_method_21_code, ⟨#[]⟩, ⟨#[]⟩, ⟨#[]⟩, prog_1_method_25_code, prog_1_method_26_code, prog_1_method_34_code, prog_1_method_27_code, prog_2_method_4_code, prog_2_method_2_code, prog_2_method_5_code, prog_3_method_2_code, prog_3_method_3_code, prog_3_method_6_code, prog_3_method_4_code, prog_3_method_5_code, prog_3_method_8_code, prog_3_method_15_code, prog_3_method_11_code, prog_3_method_7_code, prog_3_method_9_code, prog_3_method_10_code, prog_3_method_12_code, prog_3_method_13_code, prog_3_method_14_code, prog_3_method_16_code, prog_3_method_17_code, prog_3_method_18_code, ⟨#[]⟩, ⟨#[]⟩, ⟨#[]⟩, ⟨#[]⟩, ⟨#[]⟩, ⟨#[]⟩, ⟨#[]⟩, ⟨#[]⟩, ⟨#[]⟩, ⟨#[]⟩, ⟨#[]⟩, ⟨#[]⟩, ⟨#[]⟩, prog_4_method_2_code, ⟨#[]⟩, ⟨#[]⟩, prog_5_method_3_code, prog_5_method_2_code, prog_5_method_4_code, prog_6_method_2_code, prog_6_method_10_code, ⟨#[]⟩, prog_6_method_8_code, prog_6_method_28_code, prog_6_method_7_code, prog_6_method_4_code, prog_6_method_3_code, prog_6_method_9_code, prog_6_method_11_code, prog_6_method_12_code, prog_6_method_14_code, prog_6_method_31_code, prog_6_method_24_code, prog_6_method_25_code, prog_6_method_13_code, prog_6_method_15_code, prog_6_method_16_code, prog_6_method_17_code, prog_6_method_26_code, prog_6_method_6_code, prog_6_method_5_code, prog_6_method_19_code, prog_6_method_36_code, prog_6_method_35_code, prog_6_method_34_code, prog_6_method_37_code, prog_6_method_32_code, prog_6_method_30_code, prog_6_method_27_code, prog_6_method_20_code, prog_6_method_21_code, prog_6_method_22_code, prog_6_method_23_code, prog_6_method_29_code, prog_6_method_33_code, prog_6_method_38_code, ⟨#[]⟩, ⟨#[]⟩, ⟨#[]⟩, ⟨#[]⟩, ⟨#[]⟩, ⟨#[]⟩, ⟨#[]⟩, ⟨#[]⟩, ⟨#[]⟩, ⟨#[]⟩, ⟨#[]⟩, ⟨#[]⟩, ⟨#[]⟩, ⟨#[]⟩, ⟨#[]⟩, ⟨#[]⟩, ⟨#[]⟩, ⟨#[]⟩, ⟨#[]⟩, ⟨#[]⟩, ⟨#[]⟩, ⟨#[]⟩, ⟨#[]⟩, ⟨#[]⟩, ⟨#[]⟩, ⟨#[]⟩, ⟨#[]⟩, ⟨#[]⟩, ⟨#[]⟩, ⟨#[]⟩, ⟨#[]⟩, ⟨#[]⟩, ⟨#[]⟩, ⟨#[]⟩, ⟨#[]⟩, ⟨#[]⟩, ⟨#[]⟩, ⟨#[]⟩, ⟨#[]⟩, ⟨#[]⟩, ⟨#[]⟩, ⟨#[]⟩, ⟨#[]⟩, ⟨#[]⟩, ⟨#[]⟩, ⟨#[]⟩, ⟨#[]⟩, ⟨#[]⟩, ⟨#[]⟩, ⟨#[]⟩, ⟨#[]⟩, ⟨#[]⟩, ⟨#[]⟩, ⟨#[]⟩, ⟨#[]⟩, ⟨#[]⟩, ⟨#[]⟩, ⟨#[]⟩, ⟨#[]⟩, ⟨#[]⟩, ⟨#[]⟩, ⟨#[]⟩, ⟨#[]⟩, ⟨#[]⟩, ⟨#[]⟩, ⟨#[]⟩, ⟨#[]⟩, ⟨#[]⟩, prog_9_method_49_code, prog_12_method_103_code, prog_1_method_1_code, prog_2_method_1_code, prog_3_method_1_code, prog_4_method_1_code, prog_5_method_1_code, prog_6_method_1_code, ⟨#[]⟩, code, prog_2_method_3_code, method_2_code, method_3_code, method_4_code, method_5_code, method_6_code, method_7_code]
def fd_b (j : Nat) : ByteArray := fd_bs.getD j ⟨#[]⟩
noncomputable def fd_Cs : List (List Instr) := [fd_c0, fd_c1, fd_c2, fd_c3, fd_c4, fd_c5, fd_c6, fd_c7, fd_c8, fd_c9, fd_c10, fd_c11, fd_c12, fd_c13, fd_c14, fd_c15, fd_c16, fd_c17, fd_c18, fd_c19, fd_c20, fd_c21, fd_c22, fd_c23, fd_c24, fd_c25, fd_c26, fd_c27, fd_c28, fd_c29, fd_c30, fd_c31, fd_c32, fd_c33, fd_c34, fd_c35, fd_c36, fd_c37, fd_c38, fd_c39, fd_c40, fd_c41, fd_c42, fd_c43, fd_c44, fd_c45, fd_c46, fd_c47, fd_c48, fd_c49, fd_c50, fd_c51, fd_c52, fd_c53, fd_c54, fd_c55, fd_c56, fd_c57, fd_c58, fd_c59, fd_c60, fd_c61, fd_c62, fd_c63, fd_c64, fd_c65, fd_c66, fd_c67, fd_c68, fd_c69, fd_c70, fd_c71, fd_c72, fd_c73, fd_c74, fd_c75, fd_c76, fd_c77, fd_c78, fd_c79, fd_c80, fd_c81, fd_c82, fd_c83, fd_c84, fd_c85, fd_c86, fd_c87, fd_c88, fd_c89, fd_c90, fd_c91, fd_c92, fd_c93, fd_c94, fd_c95, fd_c96, fd_c97, fd_c98, fd_c99, fd_c100, fd_c101, fd_c102, fd_c103, fd_c104, fd_c105, fd_c106, fd_c107, fd_c108, fd_c109, fd_c110, fd_c111, fd_c112, fd_c113, fd_c114, fd_c115, fd_c116, fd_c117, fd_c118, fd_c119, fd_c120, fd_c121, fd_c122, fd_c123, fd_c124, fd_c125, fd_c126, fd_c127, fd_c128, fd_c129, fd_c130, fd_c131, fd_c132, fd_c133, fd_c134, fd_c135, fd_c136, fd_c137, fd_c138, fd_c139, fd_c140, fd_c141, fd_c142, fd_c143, fd_c144, fd_c145, fd_c146, fd_c147, fd_c148, fd_c149, fd_c150, fd_c151, fd_c152, fd_c153, fd_c154, fd_c155, fd_c156, fd_c157, fd_c158, fd_c159, fd_c160, fd_c161, fd_c162, fd_c163, fd_c164, fd_c165, fd_c166, fd_c167, fd_c168, fd_c169, fd_c170, fd_c171, fd_c172, fd_c173, fd_c174, fd_c175, fd_c176, fd_c177, fd_c178, fd_c179, fd_c180, fd_c181, fd_c182, fd_c183, fd_c184, fd_c185, fd_c186, fd_c187, fd_c188, fd_c189, fd_c190, fd_c191, fd_c192, fd_c193, fd_c194, fd_c195, fd_c196, fd_c197, fd_c198]
noncomputable def fd_C (j : Nat) : List Instr := fd_Cs.getD j []
noncomputable def fd_PCs : List (List Nat) := [fd_p0, fd_p1, fd_p2, fd_p3, fd_p4, fd_p5, fd_p6, fd_p7, fd_p8, fd_p9, fd_p10, fd_p11, fd_p12, fd_p13, fd_p14, fd_p15, fd_p16, fd_p17, fd_p18, fd_p19, fd_p20, fd_p21, fd_p22, fd_p23, fd_p24, fd_p25, fd_p26, fd_p27, fd_p28, fd_p29, fd_p30, fd_p31, fd_p32, fd_p33, fd_p34, fd_p35, fd_p36, fd_p37, fd_p38, fd_p39, fd_p40, fd_p41, fd_p42, fd_p43, fd_p44, fd_p45, fd_p46, fd_p47, fd_p48, fd_p49, fd_p50, fd_p51, fd_p52, fd_p53, fd_p54, fd_p55, fd_p56, fd_p57, fd_p58, fd_p59, fd_p60, fd_p61, fd_p62, fd_p63, fd_p64, fd_p65, fd_p66, fd_p67, fd_p68, fd_p69, fd_p70, fd_p71, fd_p72, fd_p73, fd_p74, fd_p75, fd_p76, fd_p77, fd_p78, fd_p79, fd_p80, fd_p81, fd_p82, fd_p83, fd_p84, fd_p85, fd_p86, fd_p87, fd_p88, fd_p89, fd_p90, fd_p91, fd_p92, fd_p93, fd_p94, fd_p95, fd_p96, fd_p97, fd_p98, fd_p99, fd_p100, fd_p101, fd_p102, fd_p103, fd_p104, fd_p105, fd_p106, fd_p107, fd_p108, fd_p109, fd_p110, fd_p111, fd_p112, fd_p113, fd_p114, fd_p115, fd_p116, fd_p117, fd_p118, fd_p119, fd_p120, fd_p121, fd_p122, fd_p123, fd_p124, fd_p125, fd_p126, fd_p127, fd_p128, fd_p129, fd_p130, fd_p131, fd_p132, fd_p133, fd_p134, fd_p135, fd_p136, fd_p137, fd_p138, fd_p139, fd_p140, fd_p141, fd_p142, fd_p143, fd_p144, fd_p145, fd_p146, fd_p147, fd_p148, fd_p149, fd_p150, fd_p151, fd_p152, fd_p153, fd_p154, fd_p155, fd_p156, fd_p157, fd_p158, fd_p159, fd_p160, fd_p161, fd_p162, fd_p163, fd_p164, fd_p165, fd_p166, fd_p167, fd_p168, fd_p169, fd_p170, fd_p171, fd_p172, fd_p173, fd_p174, fd_p175, fd_p176, fd_p177, fd_p178, fd_p179, fd_p180, fd_p181, fd_p182, fd_p183, fd_p184, fd_p185, fd_p186, fd_p187, fd_p188, fd_p189, fd_p190, fd_p191, fd_p192, fd_p193, fd_p194, fd_p195, fd_p196, fd_p197, fd_p198]
noncomputable def fd_PC (j : Nat) : List Nat := fd_PCs.getD j []
def fd_Gs : List (Nat × Nat × Nat × Option Nat) := [(0, 0, 0, none), (1, 1, 2, none), (1, 1, 2, none), (2, 2, 1, none), (1, 1, 2, none), (1, 1, 1, none), (1, 1, 2, none), (1, 1, 1, none), (4, 4, 1, some 0), (3, 4, 1, some 0), (2, 3, 1, some 0), (3, 3, 1, some 0), (3, 3, 1, some 0), (1, 1, 2, none), (3, 3, 1, some 0), (2, 2, 1, some 0), (4, 5, 1, some 0), (1, 3, 1, none), (1, 1, 1, none), (3, 3, 1, some 0), (3, 3, 1, some 0), (1, 1, 2, none), (3, 3, 1, some 0), (3, 3, 1, some 0), (2, 2, 1, some 0), (2, 2, 1, some 0), (3, 9, 1, some 0), (3, 3, 1, some 0), (2, 7, 1, some 0), (3, 3, 1, some 0), (4, 4, 1, some 0), (0, 0, 0, none), (0, 0, 0, none), (0, 0, 0, none), (1, 1, 1, some 0), (2, 2, 1, some 0), (1, 1, 2, none), (2, 2, 1, some 0), (2, 3, 0, some 1), (1, 1, 1, some 1), (2, 4, 0, some 1), (2, 3, 0, some 2), (3, 6, 0, some 2), (1, 1, 2, none), (4, 7, 1, some 2), (5, 5, 0, some 2), (2, 2, 1, some 2), (2, 4, 1, some 2), (2, 2, 1, some 2), (1, 1, 1, some 2), (2, 2, 1, some 2), (2, 2, 2, some 2), (2, 2, 1, some 2), (2, 2, 1, some 2), (2, 2, 1, some 2), (1, 3, 1, some 2), (1, 3, 1, some 2), (1, 4, 1, some 2), (0, 0, 0, none), (0, 0, 0, none), (0, 0, 0, none), (0, 0, 0, none), (0, 0, 0, none), (0, 0, 0, none), (0, 0, 0, none), (0, 0, 0, none), (0, 0, 0, none), (0, 0, 0, none), (0, 0, 0, none), (0, 0, 0, none), (0, 0, 0, none), (1, 1, 1, some 3), (0, 0, 0, none), (0, 0, 0, none), (3, 3, 0, some 4), (2, 2, 2, some 4), (3, 3, 0, some 4), (2, 2, 0, some 5), (2, 3, 0, some 5), (0, 0, 0, none), (4, 4, 0, some 5), (2, 3, 1, some 5), (2, 4, 1, some 5), (2, 2, 2, some 5), (2, 2, 1, some 5), (4, 4, 0, some 5), (3, 6, 2, some 5), (3, 4, 0, some 5), (2, 3, 0, some 5), (1, 3, 1, some 5), (2, 2, 1, some 5), (2, 2, 1, some 5), (3, 4, 0, some 5), (2, 4, 1, none), (3, 5, 0, some 5), (2, 4, 1, some 5), (2, 2, 1, some 5), (2, 3, 1, some 5), (2, 3, 1, some 5), (2, 2, 1, some 5), (2, 9, 1, some 5), (3, 6, 2, none), (1, 1, 1, none), (2, 4, 1, some 5), (2, 4, 1, some 5), (2, 4, 1, some 5), (2, 2, 1, some 5), (2, 4, 1, some 5), (2, 4, 1, some 5), (2, 4, 1, some 5), (2, 4, 1, some 5), (1, 3, 1, some 5), (1, 1, 1, some 5), (1, 3, 1, some 5), (0, 0, 0, none), (0, 0, 0, none), (0, 0, 0, none), (0, 0, 0, none), (0, 0, 0, none), (0, 0, 0, none), (0, 0, 0, none), (0, 0, 0, none), (0, 0, 0, none), (0, 0, 0, none), (0, 0, 0, none), (0, 0, 0, none), (0, 0, 0, none), (0, 0, 0, none), (0, 0, 0, none), (0, 0, 0, none), (0, 0, 0, none), (0, 0, 0, none), (0, 0, 0, none), (0, 0, 0, none), (0, 0, 0, none), (0, 0, 0, none), (0, 0, 0, none), (0, 0, 0, none), (0, 0, 0, none), (0, 0, 0, none), (0, 0, 0, none), (0, 0, 0, none), (0, 0, 0, none), (0, 0, 0, none), (0, 0, 0, none), (0, 0, 0, none), (0, 0, 0, none), (0, 0, 0, none), (0, 0, 0, none), (0, 0, 0, none), (0, 0, 0, none), (0, 0, 0, none), (0, 0, 0, none), (0, 0, 0, none), (0, 0, 0, none), (0, 0, 0, none), (0, 0, 0, none), (0, 0, 0, none), (0, 0, 0, none), (0, 0, 0, none), (0, 0, 0, none), (0, 0, 0, none), (0, 0, 0, none), (0, 0, 0, none), (0, 0, 0, none), (0, 0, 0, none), (0, 0, 0, none), (0, 0, 0, none), (0, 0, 0, none), (0, 0, 0, none), (0, 0, 0, none), (0, 0, 0, none), (0, 0, 0, none), (0, 0, 0, none), (0, 0, 0, none), (0, 0, 0, none), (0, 0, 0, none), (0, 0, 0, none), (0, 0, 0, none), (0, 0, 0, none), (0, 0, 0, none), (0, 0, 0, none), (1, 1, 1, none), (2, 4, 0, none), (1, 1, 0, some 0), (1, 2, 0, some 1), (1, 1, 0, some 2), (1, 1, 0, some 3), (1, 2, 0, some 4), (1, 2, 0, some 5), (0, 0, 0, none), (1, 5, 2, none), (2, 2, 4, some 1), (2, 2, 1, none), (1, 3, 1, none), (1, 14, 2, none), (1, 10, 2, none), (1, 13, 2, none), (2, 28, 2, none)]
def fd_G (j : Nat) : Nat × Nat × Nat × Option Nat := fd_Gs.getD j (0, 0, 0, none)
def fd_ROs : List (Nat × Nat) := [(0, 0), (0, 0), (0, 0), (0, 0), (0, 0), (0, 0), (0, 0), (0, 0), (4, 86), (3, 69), (4, 86), (5, 107), (5, 107), (0, 0), (5, 107), (6, 129), (6, 138), (1, 20), (0, 0), (6, 138), (5, 106), (0, 0), (6, 129), (6, 138), (6, 138), (3, 64), (6, 129), (5, 107), (6, 129), (5, 107), (6, 138), (0, 0), (0, 0), (0, 0), (3, 70), (5, 108), (0, 0), (5, 108), (2, 47), (0, 0), (2, 47), (5, 116), (4, 91), (0, 0), (3, 65), (2, 41), (1, 20), (2, 41), (1, 20), (0, 0), (1, 20), (1, 20), (1, 20), (1, 20), (1, 20), (2, 41), (2, 41), (2, 41), (0, 0), (0, 0), (0, 0), (0, 0), (0, 0), (0, 0), (0, 0), (0, 0), (0, 0), (0, 0), (0, 0), (0, 0), (0, 0), (0, 0), (0, 0), (0, 0), (2, 47), (1, 20), (2, 47), (1, 26), (1, 21), (0, 0), (1, 21), (3, 64), (2, 41), (1, 20), (1, 20), (1, 21), (3, 64), (3, 65), (2, 43), (4, 85), (3, 64), (3, 64), (3, 65), (0, 0), (1, 21), (5, 106), (4, 85), (2, 42), (2, 41), (1, 20), (2, 46), (1, 21), (0, 0), (3, 74), (3, 64), (2, 41), (4, 85), (0, 0), (4, 86), (5, 106), (5, 106), (4, 86), (3, 64), (4, 97), (0, 0), (0, 0), (0, 0), (0, 0), (0, 0), (0, 0), (0, 0), (0, 0), (0, 0), (0, 0), (0, 0), (0, 0), (0, 0), (0, 0), (0, 0), (0, 0), (0, 0), (0, 0), (0, 0), (0, 0), (0, 0), (0, 0), (0, 0), (0, 0), (0, 0), (0, 0), (0, 0), (0, 0), (0, 0), (0, 0), (0, 0), (0, 0), (0, 0), (0, 0), (0, 0), (0, 0), (0, 0), (0, 0), (0, 0), (0, 0), (0, 0), (0, 0), (0, 0), (0, 0), (0, 0), (0, 0), (0, 0), (0, 0), (0, 0), (0, 0), (0, 0), (0, 0), (0, 0), (0, 0), (0, 0), (0, 0), (0, 0), (0, 0), (0, 0), (0, 0), (0, 0), (0, 0), (0, 0), (0, 0), (0, 0), (0, 0), (0, 0), (0, 0), (0, 0), (0, 0), (0, 0), (0, 0), (0, 0), (0, 0), (0, 0), (0, 0), (0, 0), (10, 418), (0, 0), (0, 0), (0, 0), (7, 162), (7, 160), (7, 162), (7, 162)]
def fd_RO (j : Nat) : Nat × Nat := fd_ROs.getD j (0, 0)
def fd_ois : List Nat := [1000, 0, 0, 0, 0, 0, 0, 0, 0, 0, 0, 0, 0, 0, 0, 0, 0, 0, 0, 0, 0, 0, 0, 0, 0, 0, 0, 0, 0, 0, 0, 1000, 1000, 1000, 0, 0, 0, 0, 1, 1, 1, 2, 2, 2, 2, 2, 2, 2, 2, 2, 2, 2, 2, 2, 2, 2, 2, 2, 1000, 1000, 1000, 1000, 1000, 1000, 1000, 1000, 1000, 1000, 1000, 1000, 1000, 3, 1000, 1000, 4, 4, 4, 5, 5, 1000, 5, 5, 5, 5, 5, 5, 5, 5, 5, 5, 5, 5, 5, 5, 5, 5, 5, 5, 5, 5, 5, 5, 5, 5, 5, 5, 5, 5, 5, 5, 5, 5, 5, 5, 1000, 1000, 1000, 1000, 1000, 1000, 1000, 1000, 1000, 1000, 1000, 1000, 1000, 1000, 1000, 1000, 1000, 1000, 1000, 1000, 1000, 1000, 1000, 1000, 1000, 1000, 1000, 1000, 1000, 1000, 1000, 1000, 1000, 1000, 1000, 1000, 1000, 1000, 1000, 1000, 1000, 1000, 1000, 1000, 1000, 1000, 1000, 1000, 1000, 1000, 1000, 1000, 1000, 1000, 1000, 1000, 1000, 1000, 1000, 1000, 1000, 1000, 1000, 1000, 1000, 1000, 1000, 1000, 7, 8, 0, 1, 2, 3, 4, 5, 1000, 6, 1, 6, 6, 6, 6, 6, 6]
def fd_oi (j : Nat) : Nat := fd_ois.getD j 1000
abbrev fd_CT0 : List (Nat × Int) := []
abbrev fd_CL0 : List (Nat × Int) := []
abbrev fd_FT0 : List (Nat × Nat × Nat) := [(12, 0, 0), (36, 0, 4), (22, 0, 2), (29, 0, 3), (16, 0, 1), (43, 0, 5)]
abbrev fd_PT0 : List (Nat × Nat × Nat) := []
abbrev fd_LT0 : List (Nat × Nat) := [(47, 1), (81, 4), (84, 3), (88, 83), (58, 38), (91, 80), (77, 81), (95, 84), (98, 85), (62, 78), (101, 86), (105, 87), (108, 89), (111, 13), (114, 92), (117, 94), (120, 95), (123, 97), (126, 41), (129, 46), (132, 100), (263, 6), (135, 99), (138, 5), (141, 82), (144, 7), (147, 103), (150, 104), (153, 47), (156, 105), (159, 21), (162, 90), (165, 91), (168, 96), (171, 106), (51, 2), (174, 107), (177, 108), (180, 109), (183, 110), (186, 49), (189, 50), (190, 51), (193, 48), (196, 52), (199, 53), (202, 54), (205, 111), (208, 112), (211, 113), (214, 71), (217, 39), (218, 25), (221, 55), (224, 56), (227, 57), (230, 27), (233, 77), (236, 29), (247, 40), (250, 36), (253, 74), (257, 75), (260, 76)]
abbrev fd_CT1 : List (Nat × Int) := []
abbrev fd_CL1 : List (Nat × Int) := []
abbrev fd_FT1 : List (Nat × Nat × Nat) := [(21, 1, 2), (17, 1, 1), (11, 1, 0)]
abbrev fd_PT1 : List (Nat × Nat × Nat) := [(21, 1, 2), (17, 1, 1)]
abbrev fd_LT1 : List (Nat × Nat) := [(25, 192), (29, 77), (33, 1000002)]
abbrev fd_CT2 : List (Nat × Int) := []
abbrev fd_CL2 : List (Nat × Int) := []
abbrev fd_FT2 : List (Nat × Nat × Nat) := [(15, 2, 1), (9, 2, 0), (19, 2, 2), (22, 2, 3), (25, 2, 4), (34, 2, 7), (28, 2, 5), (31, 2, 6)]
abbrev fd_PT2 : List (Nat × Nat × Nat) := [(9, 2, 0)]
abbrev fd_LT2 : List (Nat × Nat) := [(38, 183), (44, 83), (50, 42), (54, 43), (57, 44), (61, 17), (65, 1000002), (71, 1000001), (74, 98), (77, 45), (81, 6), (84, 18), (87, 99), (90, 48), (93, 51), (96, 50), (99, 53), (102, 54)]
abbrev fd_CT3 : List (Nat × Int) := []
abbrev fd_CL3 : List (Nat × Int) := []
abbrev fd_FT3 : List (Nat × Nat × Nat) := [(15, 3, 1)]
abbrev fd_PT3 : List (Nat × Nat × Nat) := []
abbrev fd_LT3 : List (Nat × Nat) := []
abbrev fd_CT4 : List (Nat × Int) := []
abbrev fd_CL4 : List (Nat × Int) := []
abbrev fd_FT4 : List (Nat × Nat × Nat) := [(11, 4, 0), (17, 4, 1)]
abbrev fd_PT4 : List (Nat × Nat × Nat) := []
abbrev fd_LT4 : List (Nat × Nat) := [(22, 36), (26, 77), (30, 75)]
abbrev fd_CT5 : List (Nat × Int) := []
abbrev fd_CL5 : List (Nat × Int) := []
abbrev fd_FT5 : List (Nat × Nat × Nat) := [(9, 5, 0), (15, 5, 1), (18, 5, 2)]
abbrev fd_PT5 : List (Nat × Nat × Nat) := []
abbrev fd_LT5 : List (Nat × Nat) := [(21, 1000000), (48, 1), (38, 3), (51, 4), (54, 5), (57, 82), (80, 182), (60, 7), (42, 83), (27, 6), (63, 88), (67, 80), (31, 84), (74, 78), (94, 90), (97, 91), (71, 93), (77, 96), (45, 17), (35, 18), (114, 101), (103, 102), (106, 1000002), (111, 1000001), (118, 100), (100, 97), (85, 81), (88, 99), (91, 106), (121, 103)]
abbrev fd_CT6 : List (Nat × Int) := [(7, 15485959), (8, 2147483647)]
abbrev fd_CL6 : List (Nat × Int) := []
abbrev fd_FT6 : List (Nat × Nat × Nat) := []
abbrev fd_PT6 : List (Nat × Nat × Nat) := []
abbrev fd_LT6 : List (Nat × Nat) := [(68, 34), (72, 37), (25, 24), (43, 26), (55, 28), (75, 193), (79, 198), (83, 196), (87, 195), (90, 197), (93, 35), (64, 10), (52, 12), (15, 19), (9, 16), (19, 194), (28, 20), (31, 22), (34, 23), (37, 8), (40, 9), (46, 11), (49, 30), (58, 14), (61, 15)]
abbrev fd_CT7 : List (Nat × Int) := [(265, 1431655765), (266, 858993459), (267, 252645135)]
abbrev fd_CL7 : List (Nat × Int) := []
abbrev fd_FT7 : List (Nat × Nat × Nat) := []
abbrev fd_PT7 : List (Nat × Nat × Nat) := []
abbrev fd_LT7 : List (Nat × Nat) := []
abbrev fd_CT8 : List (Nat × Int) := []
abbrev fd_CL8 : List (Nat × Int) := []
abbrev fd_FT8 : List (Nat × Nat × Nat) := []
abbrev fd_PT8 : List (Nat × Nat × Nat) := []
abbrev fd_LT8 : List (Nat × Nat) := []
def fd_CTc : Nat → List (Nat × Int) := fun j => match j with
  | 0 => fd_CT0
  | 1 => fd_CT1
  | 2 => fd_CT2
  | 3 => fd_CT3
  | 4 => fd_CT4
  | 5 => fd_CT5
  | 6 => fd_CT6
  | 7 => fd_CT7
  | 8 => fd_CT8
  | _ => []
def fd_CT (j : Nat) : List (Nat × Int) := fd_CTc (fd_oi j)
def fd_CLc : Nat → List (Nat × Int) := fun j => match j with
  | 0 => fd_CL0
  | 1 => fd_CL1
  | 2 => fd_CL2
  | 3 => fd_CL3
  | 4 => fd_CL4
  | 5 => fd_CL5
  | 6 => fd_CL6
  | 7 => fd_CL7
  | 8 => fd_CL8
  | _ => []
def fd_CL (j : Nat) : List (Nat × Int) := fd_CLc (fd_oi j)
def fd_FTc : Nat → List (Nat × Nat × Nat) := fun j => match j with
  | 0 => fd_FT0
  | 1 => fd_FT1
  | 2 => fd_FT2
  | 3 => fd_FT3
  | 4 => fd_FT4
  | 5 => fd_FT5
  | 6 => fd_FT6
  | 7 => fd_FT7
  | 8 => fd_FT8
  | _ => []
def fd_FT (j : Nat) : List (Nat × Nat × Nat) := fd_FTc (fd_oi j)
def fd_PTc : Nat → List (Nat × Nat × Nat) := fun j => match j with
  | 0 => fd_PT0
  | 1 => fd_PT1
  | 2 => fd_PT2
  | 3 => fd_PT3
  | 4 => fd_PT4
  | 5 => fd_PT5
  | 6 => fd_PT6
  | 7 => fd_PT7
  | 8 => fd_PT8
  | _ => []
def fd_PT (j : Nat) : List (Nat × Nat × Nat) := fd_PTc (fd_oi j)
def fd_LTc : Nat → List (Nat × Nat) := fun j => match j with
  | 0 => fd_LT0
  | 1 => fd_LT1
  | 2 => fd_LT2
  | 3 => fd_LT3
  | 4 => fd_LT4
  | 5 => fd_LT5
  | 6 => fd_LT6
  | 7 => fd_LT7
  | 8 => fd_LT8
  | _ => []
def fd_LT (j : Nat) : List (Nat × Nat) := fd_LTc (fd_oi j)

/-- 0: FieldsByDots$Cuts.<init>()V -/
def b0_0 : List Instr := [.aload 0, .monitorenter, .aload 0, .iconst 100, .newarray .int, .putfield 0, .aload 0, .iconst 100, .newarray .int, .putfield 1, .aload 0, .iconst 100, .newarray .long, .putfield 2, .return_]
def bk0 : Nat → List Instr := fun pc => match pc with
  | 0 => b0_0
  | _ => []
/-- 1: FieldsByDots$Cuts.plan(LFieldsByDots$Outline;LFieldsByDots$Sights;)V -/
def b1_0 : List Instr := [.aload 0, .aload 1, .getfield 66, .putfield 3, .iconst 1, .istore 3, .jsr 10]
def b1_10 : List Instr := [.iload 3, .aload 0, .getfield 3, .if_icmp .ge 97, .iconst 0, .istore 4, .jsr 21]
def b1_21 : List Instr := [.iload 4, .iload 3, .iadd, .aload 0, .getfield 3, .if_icmp .ge 91, .aload 0, .iload 4, .iload 4, .iload 3, .iadd, .aload 2, .iload 4, .iload 4, .iload 3, .iadd, .invokeinterface 54 3, .invokeinterface 2 4, .aload 2, .iload 4, .iload 4, .iload 3, .iadd, .invokeinterface 54 3, .ifCond .eq 85, .aload 0, .iload 4, .iload 4, .iload 3, .iadd, .aload 1, .iload 4, .iload 4, .iload 3, .iadd, .invokeinterface 51 3, .invokeinterface 3 4, .jsr 85]
def b1_85 : List Instr := [.iinc 4 1, .goto 21]
def b1_91 : List Instr := [.iinc 3 1, .goto 10]
def b1_97 : List Instr := [.return_]
def bk1 : Nat → List Instr := fun pc => match pc with
  | 0 => b1_0
  | 10 => b1_10
  | 21 => b1_21
  | 85 => b1_85
  | 91 => b1_91
  | 97 => b1_97
  | _ => []
/-- 2: FieldsByDots$Cuts.planPart(IIZ)V -/
def b2_0 : List Instr := [.iconst 10, .iload 1, .imul, .iload 2, .iadd, .istore 4, .aload 0, .getfield 0, .iload 4, .iconst 0, .iastore, .aload 0, .getfield 1, .iload 4, .iconst 0, .iastore, .aload 0, .getfield 2, .iload 4, .goto_w 0, .lastore, .iload 2, .iload 1, .iconst 1, .iadd, .if_icmp .ne 50, .aload 0, .getfield 0, .iload 4, .iconst 1, .iastore, .goto 103]
def b2_50 : List Instr := [.iload 3, .ifCond .ne 66, .iload 2, .iload 1, .isub, .aload 0, .getfield 3, .iconst 1, .isub, .if_icmp .ne 103, .jsr 66]
def b2_66 : List Instr := [.iload 1, .iconst 1, .iadd, .istore 5, .jsr 71]
def b2_71 : List Instr := [.iload 5, .iload 2, .if_icmp .ge 103, .aload 0, .iconst 10, .iload 1, .imul, .iload 5, .iadd, .iconst 10, .iload 5, .imul, .iload 2, .iadd, .iload 4, .invokeinterface 4 4, .iinc 5 1, .goto 71]
def b2_103 : List Instr := [.return_]
def bk2 : Nat → List Instr := fun pc => match pc with
  | 0 => b2_0
  | 50 => b2_50
  | 66 => b2_66
  | 71 => b2_71
  | 103 => b2_103
  | _ => []
/-- 3: FieldsByDots$Cuts.addStrip(III)V -/
def b3_0 : List Instr := [.aload 0, .getfield 1, .iconst 10, .iload 1, .imul, .iload 2, .iadd, .dup2, .iaload, .iload 3, .iadd, .iastore, .aload 0, .getfield 2, .iconst 10, .iload 1, .imul, .iload 2, .iadd, .dup2, .laload, .iload 1, .iload 2, .invokeinterface 5 2, .lor, .lastore, .return_]
def bk3 : Nat → List Instr := fun pc => match pc with
  | 0 => b3_0
  | _ => []
/-- 4: FieldsByDots$Cuts.planTip(III)V -/
def b4_0 : List Instr := [.aload 0, .getfield 0, .iload 1, .iaload, .aload 0, .getfield 0, .iload 2, .iaload, .imul, .istore 4, .iload 4, .ifCond .ne 21, .return_]
def b4_21 : List Instr := [.aload 0, .getfield 1, .iload 1, .iaload, .aload 0, .getfield 1, .iload 2, .iaload, .iadd, .istore 5, .aload 0, .getfield 2, .iload 1, .laload, .aload 0, .getfield 2, .iload 2, .laload, .lor, .lstore 6, .aload 0, .getfield 0, .iload 3, .iaload, .ifCond .eq 71, .iload 5, .aload 0, .getfield 1, .iload 3, .iaload, .if_icmp .ge 75, .jsr 71]
def b4_71 : List Instr := [.iconst 1, .goto 76]
def b4_75 : List Instr := [.iconst 0, .jsr 76]
def b4_76 : List Instr := [.istore 8, .iload 8, .ifCond .ne 106, .iload 5, .aload 0, .getfield 1, .iload 3, .iaload, .if_icmp .ne 122, .lload 6, .aload 0, .getfield 2, .iload 3, .laload, .lcmp, .ifCond .le 122, .jsr 106]
def b4_106 : List Instr := [.aload 0, .getfield 1, .iload 3, .iload 5, .iastore, .aload 0, .getfield 2, .iload 3, .lload 6, .lastore, .jsr 122]
def b4_122 : List Instr := [.aload 0, .getfield 0, .iload 3, .dup2, .iaload, .iload 4, .iadd, .iastore, .return_]
def bk4 : Nat → List Instr := fun pc => match pc with
  | 0 => b4_0
  | 21 => b4_21
  | 71 => b4_71
  | 75 => b4_75
  | 76 => b4_76
  | 106 => b4_106
  | 122 => b4_122
  | _ => []
/-- 5: FieldsByDots$Cuts.bitOf(II)J -/
def b5_0 : List Instr := [.iload 0, .iconst 19, .iload 0, .isub, .imul, .iconst 2, .idiv, .iload 1, .iadd, .iload 0, .isub, .iconst 1, .isub, .istore 2, .goto_w 1, .iconst 62, .iload 2, .isub, .lshl, .lreturn]
def bk5 : Nat → List Instr := fun pc => match pc with
  | 0 => b5_0
  | _ => []
/-- 6: FieldsByDots$Cuts.whole()I -/
def b6_0 : List Instr := [.aload 0, .getfield 3, .iconst 1, .isub, .ireturn]
def bk6 : Nat → List Instr := fun pc => match pc with
  | 0 => b6_0
  | _ => []
/-- 7: FieldsByDots$Cuts.allWays()I -/
def b7_0 : List Instr := [.aload 0, .getfield 0, .aload 0, .invokeinterface 6 1, .iaload, .ireturn]
def bk7 : Nat → List Instr := fun pc => match pc with
  | 0 => b7_0
  | _ => []
/-- 8: FieldsByDots$Cuts.leastLong()I -/
def b8_0 : List Instr := [.aload 0, .getfield 1, .aload 0, .invokeinterface 6 1, .iaload, .ireturn]
def bk8 : Nat → List Instr := fun pc => match pc with
  | 0 => b8_0
  | _ => []
/-- 9: FieldsByDots$Cuts.stripOfFirst(I)I -/
def b9_0 : List Instr := [.iconst 0, .istore 2, .iconst 0, .istore 3, .jsr 4]
def b9_4 : List Instr := [.iload 3, .aload 0, .getfield 3, .if_icmp .ge 75, .iload 3, .iconst 1, .iadd, .istore 4, .jsr 17]
def b9_17 : List Instr := [.iload 4, .aload 0, .getfield 3, .if_icmp .ge 69, .aload 0, .getfield 2, .aload 0, .invokeinterface 6 1, .laload, .iload 3, .iload 4, .invokeinterface 5 2, .land, .goto_w 0, .lcmp, .ifCond .eq 63, .iload 2, .iload 1, .if_icmp .ne 60, .iconst 10, .iload 3, .imul, .iload 4, .iadd, .ireturn]
def b9_60 : List Instr := [.iinc 2 1, .jsr 63]
def b9_63 : List Instr := [.iinc 4 1, .goto 17]
def b9_69 : List Instr := [.iinc 3 1, .goto 4]
def b9_75 : List Instr := [.iconst (-9), .ireturn]
def bk9 : Nat → List Instr := fun pc => match pc with
  | 0 => b9_0
  | 4 => b9_4
  | 17 => b9_17
  | 60 => b9_60
  | 63 => b9_63
  | 69 => b9_69
  | 75 => b9_75
  | _ => []
/-- 10: FieldsByDots$Likeness.<init>()V -/
def b10_0 : List Instr := [.aload 0, .monitorenter, .aload 0, .new 2, .dup, .invokeinterface 15 1, .putfield 32, .return_]
def bk10 : Nat → List Instr := fun pc => match pc with
  | 0 => b10_0
  | _ => []
/-- 11: FieldsByDots$Likeness.isFound(LFieldsByDots$Outline;LFieldsByDots$Outline;I)Z -/
def b11_0 : List Instr := [.aload 1, .getfield 66, .aload 2, .getfield 66, .if_icmp .eq 13, .iconst 0, .freturn]
def b11_13 : List Instr := [.iconst 0, .istore 4, .jsr 16]
def b11_16 : List Instr := [.iload 4, .aload 2, .getfield 66, .if_icmp .ge 69, .aload 0, .aload 2, .iload 4, .iconst 0, .invokeinterface 12 4, .aload 0, .aload 1, .iload 3, .invokeinterface 13 3, .ifCond .eq 44, .iconst 1, .freturn]
def b11_44 : List Instr := [.aload 0, .aload 2, .iload 4, .iconst 1, .invokeinterface 12 4, .aload 0, .aload 1, .iload 3, .invokeinterface 13 3, .ifCond .eq 63, .iconst 1, .freturn]
def b11_63 : List Instr := [.iinc 4 1, .goto 16]
def b11_69 : List Instr := [.iconst 0, .freturn]
def bk11 : Nat → List Instr := fun pc => match pc with
  | 0 => b11_0
  | 13 => b11_13
  | 16 => b11_16
  | 44 => b11_44
  | 63 => b11_63
  | 69 => b11_69
  | _ => []
/-- 12: FieldsByDots$Likeness.arrange(LFieldsByDots$Outline;IZ)V -/
def b12_0 : List Instr := [.iload 2, .istore 4, .aload 0, .getfield 32, .iconst 0, .putfield 66, .iconst 0, .istore 5, .jsr 14]
def b12_14 : List Instr := [.iload 5, .aload 1, .getfield 66, .if_icmp .ge 73, .aload 0, .getfield 32, .iload 5, .aload 1, .getfield 64, .iload 4, .iaload, .aload 1, .getfield 65, .iload 4, .iaload, .invokeinterface 19 4, .iload 3, .ifCond .eq 59, .aload 1, .iload 4, .invokeinterface 26 2, .goto 65]
def b12_59 : List Instr := [.aload 1, .iload 4, .invokeinterface 25 2, .jsr 65]
def b12_65 : List Instr := [.istore 4, .iinc 5 1, .goto 14]
def b12_73 : List Instr := [.return_]
def bk12 : Nat → List Instr := fun pc => match pc with
  | 0 => b12_0
  | 14 => b12_14
  | 59 => b12_59
  | 65 => b12_65
  | 73 => b12_73
  | _ => []
/-- 13: FieldsByDots$Likeness.isMapped(LFieldsByDots$Outline;I)Z -/
def b13_0 : List Instr := [.iconst 2, .istore 3, .jsr 2]
def b13_2 : List Instr := [.iload 3, .aload 1, .getfield 66, .if_icmp .ge 26, .aload 1, .iconst 0, .iconst 1, .iload 3, .invokeinterface 27 4, .ifCond .ne 26, .iinc 3 1, .goto 2]
def b13_26 : List Instr := [.iload 3, .aload 1, .getfield 66, .if_icmp .lt 36, .iconst 0, .freturn]
def b13_36 : List Instr := [.aload 0, .getfield 32, .iconst 0, .iconst 1, .iload 3, .invokeinterface 27 4, .iload 2, .aload 1, .iconst 0, .iconst 1, .iload 3, .invokeinterface 27 4, .imul, .if_icmp .eq 60, .iconst 0, .freturn]
def b13_60 : List Instr := [.aload 1, .aload 0, .getfield 32, .getfield 64, .iload 3, .invokeinterface 14 3, .ifCond .eq 94, .aload 1, .aload 0, .getfield 32, .getfield 65, .iload 3, .invokeinterface 14 3, .ifCond .eq 94, .iconst 1, .goto 95]
def b13_94 : List Instr := [.iconst 0, .jsr 95]
def b13_95 : List Instr := [.freturn]
def bk13 : Nat → List Instr := fun pc => match pc with
  | 0 => b13_0
  | 2 => b13_2
  | 26 => b13_26
  | 36 => b13_36
  | 60 => b13_60
  | 94 => b13_94
  | 95 => b13_95
  | _ => []
/-- 14: FieldsByDots$Likeness.isRowMapped(LFieldsByDots$Outline;[II)Z -/
def b14_0 : List Instr := [.aload 0, .getfield 64, .iconst 1, .iaload, .aload 0, .getfield 64, .iconst 0, .iaload, .isub, .istore 3, .aload 0, .getfield 65, .iconst 1, .iaload, .aload 0, .getfield 65, .iconst 0, .iaload, .isub, .istore 4, .aload 0, .getfield 64, .iload 2, .iaload, .aload 0, .getfield 64, .iconst 0, .iaload, .isub, .istore 5, .aload 0, .getfield 65, .iload 2, .iaload, .aload 0, .getfield 65, .iconst 0, .iaload, .isub, .istore 6, .aload 1, .iconst 1, .iaload, .aload 1, .iconst 0, .iaload, .isub, .istore 7, .aload 1, .iload 2, .iaload, .aload 1, .iconst 0, .iaload, .isub, .istore 8, .iload 3, .iload 6, .imul, .iload 4, .iload 5, .imul, .isub, .istore 9, .iload 7, .iload 6, .imul, .iload 8, .iload 4, .imul, .isub, .istore 10, .iload 8, .iload 3, .imul, .iload 7, .iload 5, .imul, .isub, .istore 11, .iload 9, .ifCond .eq 135, .iload 10, .iload 9, .irem, .ifCond .ne 135, .iload 11, .iload 9, .irem, .ifCond .eq 137, .jsr 135]
def b14_135 : List Instr := [.iconst 0, .freturn]
def b14_137 : List Instr := [.iconst 2, .istore 12, .jsr 140]
def b14_140 : List Instr := [.iload 12, .aload 0, .getfield 66, .if_icmp .ge 214, .aload 0, .getfield 64, .iload 12, .iaload, .aload 0, .getfield 64, .iconst 0, .iaload, .isub, .istore 13, .aload 0, .getfield 65, .iload 12, .iaload, .aload 0, .getfield 65, .iconst 0, .iaload, .isub, .istore 14, .iload 10, .iload 13, .imul, .iload 11, .iload 14, .imul, .iadd, .iload 9, .aload 1, .iload 12, .iaload, .aload 1, .iconst 0, .iaload, .isub, .imul, .if_icmp .eq 208, .iconst 0, .freturn]
def b14_208 : List Instr := [.iinc 12 1, .goto 140]
def b14_214 : List Instr := [.iconst 1, .freturn]
def bk14 : Nat → List Instr := fun pc => match pc with
  | 0 => b14_0
  | 135 => b14_135
  | 137 => b14_137
  | 140 => b14_140
  | 208 => b14_208
  | 214 => b14_214
  | _ => []
/-- 15: FieldsByDots$Outline.<init>()V -/
def b15_0 : List Instr := [.aload 0, .monitorenter, .aload 0, .iconst 10, .newarray .int, .putfield 64, .aload 0, .iconst 10, .newarray .int, .putfield 65, .return_]
def bk15 : Nat → List Instr := fun pc => match pc with
  | 0 => b15_0
  | _ => []
/-- 16: FieldsByDots$Outline.has(I)Z -/
def b16_0 : List Instr := [.iload 1, .ifCond .lt 16, .iload 1, .aload 0, .getfield 66, .if_icmp .ge 16, .iconst 1, .goto 17]
def b16_16 : List Instr := [.iconst 0, .jsr 17]
def b16_17 : List Instr := [.freturn]
def bk16 : Nat → List Instr := fun pc => match pc with
  | 0 => b16_0
  | 16 => b16_16
  | 17 => b16_17
  | _ => []
/-- 17: FieldsByDots$Outline.cornerAt(II)I -/
def b17_0 : List Instr := [.iconst 0, .istore 3, .jsr 2]
def b17_2 : List Instr := [.iload 3, .aload 0, .getfield 66, .if_icmp .ge 38, .aload 0, .getfield 64, .iload 3, .iaload, .iload 1, .if_icmp .ne 32, .aload 0, .getfield 65, .iload 3, .iaload, .iload 2, .if_icmp .ne 32, .iload 3, .ireturn]
def b17_32 : List Instr := [.iinc 3 1, .goto 2]
def b17_38 : List Instr := [.iconst (-9), .ireturn]
def bk17 : Nat → List Instr := fun pc => match pc with
  | 0 => b17_0
  | 2 => b17_2
  | 32 => b17_32
  | 38 => b17_38
  | _ => []
/-- 18: FieldsByDots$Outline.copyFrom(LFieldsByDots$Outline;)V -/
def b18_0 : List Instr := [.aload 0, .aload 1, .getfield 66, .putfield 66, .iconst 0, .istore 2, .jsr 10]
def b18_10 : List Instr := [.iload 2, .aload 0, .getfield 66, .if_icmp .ge 48, .aload 0, .getfield 64, .iload 2, .aload 1, .getfield 64, .iload 2, .iaload, .iastore, .aload 0, .getfield 65, .iload 2, .aload 1, .getfield 65, .iload 2, .iaload, .iastore, .iinc 2 1, .goto 10]
def b18_48 : List Instr := [.return_]
def bk18 : Nat → List Instr := fun pc => match pc with
  | 0 => b18_0
  | 10 => b18_10
  | 48 => b18_48
  | _ => []
/-- 19: FieldsByDots$Outline.insert(III)V -/
def b19_0 : List Instr := [.aload 0, .getfield 66, .istore 4, .jsr 6]
def b19_6 : List Instr := [.iload 4, .iload 1, .if_icmp .le 50, .aload 0, .getfield 64, .iload 4, .aload 0, .getfield 64, .iload 4, .iconst 1, .isub, .iaload, .iastore, .aload 0, .getfield 65, .iload 4, .aload 0, .getfield 65, .iload 4, .iconst 1, .isub, .iaload, .iastore, .iinc 4 (-1), .goto 6]
def b19_50 : List Instr := [.aload 0, .getfield 64, .iload 1, .iload 2, .iastore, .aload 0, .getfield 65, .iload 1, .iload 3, .iastore, .aload 0, .dup, .getfield 66, .iconst 1, .iadd, .putfield 66, .return_]
def bk19 : Nat → List Instr := fun pc => match pc with
  | 0 => b19_0
  | 6 => b19_6
  | 50 => b19_50
  | _ => []
/-- 20: FieldsByDots$Outline.remove(I)V -/
def b20_0 : List Instr := [.iload 1, .istore 2, .jsr 2]
def b20_2 : List Instr := [.iload 2, .iconst 1, .iadd, .aload 0, .getfield 66, .if_icmp .ge 46, .aload 0, .getfield 64, .iload 2, .aload 0, .getfield 64, .iload 2, .iconst 1, .iadd, .iaload, .iastore, .aload 0, .getfield 65, .iload 2, .aload 0, .getfield 65, .iload 2, .iconst 1, .iadd, .iaload, .iastore, .iinc 2 1, .goto 2]
def b20_46 : List Instr := [.aload 0, .dup, .getfield 66, .iconst 1, .isub, .putfield 66, .return_]
def bk20 : Nat → List Instr := fun pc => match pc with
  | 0 => b20_0
  | 2 => b20_2
  | 46 => b20_46
  | _ => []
/-- 21: FieldsByDots$Outline.mirrorLeftToRight()V -/
def b21_0 : List Instr := [.iconst 0, .istore 1, .jsr 2]
def b21_2 : List Instr := [.iload 1, .aload 0, .getfield 66, .if_icmp .ge 31, .aload 0, .getfield 64, .iload 1, .iconst 15, .aload 0, .getfield 64, .iload 1, .iaload, .isub, .iastore, .iinc 1 1, .goto 2]
def b21_31 : List Instr := [.return_]
def bk21 : Nat → List Instr := fun pc => match pc with
  | 0 => b21_0
  | 2 => b21_2
  | 31 => b21_31
  | _ => []
/-- 22: FieldsByDots$Outline.turnQuarterLeft()V -/
def b22_0 : List Instr := [.iconst 0, .istore 1, .jsr 2]
def b22_2 : List Instr := [.iload 1, .aload 0, .getfield 66, .if_icmp .ge 45, .aload 0, .getfield 64, .iload 1, .iaload, .istore 2, .aload 0, .getfield 64, .iload 1, .iconst 15, .aload 0, .getfield 65, .iload 1, .iaload, .isub, .iastore, .aload 0, .getfield 65, .iload 1, .iload 2, .iastore, .iinc 1 1, .goto 2]
def b22_45 : List Instr := [.return_]
def bk22 : Nat → List Instr := fun pc => match pc with
  | 0 => b22_0
  | 2 => b22_2
  | 45 => b22_45
  | _ => []
/-- 23: FieldsByDots$Outline.staysOnDots(II)Z -/
def b23_0 : List Instr := [.iconst 0, .istore 3, .jsr 2]
def b23_2 : List Instr := [.iload 3, .aload 0, .getfield 66, .if_icmp .ge 40, .aload 0, .getfield 64, .iload 3, .iaload, .iload 1, .iadd, .aload 0, .getfield 65, .iload 3, .iaload, .iload 2, .iadd, .invokeinterface 99 2, .ifCond .ne 34, .iconst 0, .freturn]
def b23_34 : List Instr := [.iinc 3 1, .goto 2]
def b23_40 : List Instr := [.iconst 1, .freturn]
def bk23 : Nat → List Instr := fun pc => match pc with
  | 0 => b23_0
  | 2 => b23_2
  | 34 => b23_34
  | 40 => b23_40
  | _ => []
/-- 24: FieldsByDots$Outline.shiftBy(II)V -/
def b24_0 : List Instr := [.iconst 0, .istore 3, .jsr 2]
def b24_2 : List Instr := [.iload 3, .aload 0, .getfield 66, .if_icmp .ge 36, .aload 0, .getfield 64, .iload 3, .dup2, .iaload, .iload 1, .iadd, .iastore, .aload 0, .getfield 65, .iload 3, .dup2, .iaload, .iload 2, .iadd, .iastore, .iinc 3 1, .goto 2]
def b24_36 : List Instr := [.return_]
def bk24 : Nat → List Instr := fun pc => match pc with
  | 0 => b24_0
  | 2 => b24_2
  | 36 => b24_36
  | _ => []
/-- 25: FieldsByDots$Outline.next(I)I -/
def b25_0 : List Instr := [.iload 1, .iconst 1, .iadd, .aload 0, .getfield 66, .if_icmp .ge 16, .iload 1, .iconst 1, .iadd, .goto 17]
def b25_16 : List Instr := [.iconst 0, .jsr 17]
def b25_17 : List Instr := [.ireturn]
def bk25 : Nat → List Instr := fun pc => match pc with
  | 0 => b25_0
  | 16 => b25_16
  | 17 => b25_17
  | _ => []
/-- 26: FieldsByDots$Outline.previous(I)I -/
def b26_0 : List Instr := [.iload 1, .ifCond .le 10, .iload 1, .iconst 1, .isub, .goto 16]
def b26_10 : List Instr := [.aload 0, .getfield 66, .iconst 1, .isub, .jsr 16]
def b26_16 : List Instr := [.ireturn]
def bk26 : Nat → List Instr := fun pc => match pc with
  | 0 => b26_0
  | 10 => b26_10
  | 16 => b26_16
  | _ => []
/-- 27: FieldsByDots$Outline.sideOf(III)I -/
def b27_0 : List Instr := [.aload 0, .getfield 64, .iload 2, .iaload, .aload 0, .getfield 64, .iload 1, .iaload, .isub, .aload 0, .getfield 65, .iload 3, .iaload, .aload 0, .getfield 65, .iload 1, .iaload, .isub, .imul, .aload 0, .getfield 65, .iload 2, .iaload, .aload 0, .getfield 65, .iload 1, .iaload, .isub, .aload 0, .getfield 64, .iload 3, .iaload, .aload 0, .getfield 64, .iload 1, .iaload, .isub, .imul, .isub, .ireturn]
def bk27 : Nat → List Instr := fun pc => match pc with
  | 0 => b27_0
  | _ => []
/-- 28: FieldsByDots$Outline.spreadAt(III)I -/
def b28_0 : List Instr := [.aload 0, .getfield 64, .iload 2, .iaload, .aload 0, .getfield 64, .iload 1, .iaload, .isub, .aload 0, .getfield 64, .iload 3, .iaload, .aload 0, .getfield 64, .iload 1, .iaload, .isub, .imul, .aload 0, .getfield 65, .iload 2, .iaload, .aload 0, .getfield 65, .iload 1, .iaload, .isub, .aload 0, .getfield 65, .iload 3, .iaload, .aload 0, .getfield 65, .iload 1, .iaload, .isub, .imul, .iadd, .ireturn]
def bk28 : Nat → List Instr := fun pc => match pc with
  | 0 => b28_0
  | _ => []
/-- 29: FieldsByDots$Outline.isBetween(III)Z -/
def b29_0 : List Instr := [.aload 0, .iload 1, .iload 2, .iload 3, .invokeinterface 27 4, .ifCond .ne 24, .aload 0, .iload 3, .iload 1, .iload 2, .invokeinterface 28 4, .ifCond .ge 24, .iconst 1, .goto 25]
def b29_24 : List Instr := [.iconst 0, .jsr 25]
def b29_25 : List Instr := [.freturn]
def bk29 : Nat → List Instr := fun pc => match pc with
  | 0 => b29_0
  | 24 => b29_24
  | 25 => b29_25
  | _ => []
/-- 30: FieldsByDots$Outline.isCrossing(IIII)Z -/
def b30_0 : List Instr := [.aload 0, .iload 1, .iload 2, .iload 3, .invokeinterface 27 4, .aload 0, .iload 1, .iload 2, .iload 4, .invokeinterface 27 4, .imul, .ifCond .ge 43, .aload 0, .iload 3, .iload 4, .iload 1, .invokeinterface 27 4, .aload 0, .iload 3, .iload 4, .iload 2, .invokeinterface 27 4, .imul, .ifCond .ge 43, .iconst 1, .goto 44]
def b30_43 : List Instr := [.iconst 0, .jsr 44]
def b30_44 : List Instr := [.freturn]
def bk30 : Nat → List Instr := fun pc => match pc with
  | 0 => b30_0
  | 43 => b30_43
  | 44 => b30_44
  | _ => []
/-- 31: FieldsByDots$Outline.isSound()Z -/
def b31_0 : List Instr := [.aload 0, .getfield 66, .iconst 3, .if_icmp .ge 10, .iconst 0, .freturn]
def b31_10 : List Instr := [.iconst 0, .istore 1, .jsr 12]
def b31_12 : List Instr := [.iload 1, .aload 0, .getfield 66, .if_icmp .ge 74, .aload 0, .iload 1, .invokeinterface 32 2, .ifCond .eq 30, .iconst 0, .freturn]
def b31_30 : List Instr := [.iload 1, .iconst 2, .iadd, .istore 2, .jsr 34]
def b31_34 : List Instr := [.iload 2, .aload 0, .getfield 66, .if_icmp .ge 68, .aload 0, .iload 2, .invokeinterface 25 2, .iload 1, .if_icmp .eq 62, .aload 0, .iload 1, .iload 2, .invokeinterface 33 3, .ifCond .eq 62, .iconst 0, .freturn]
def b31_62 : List Instr := [.iinc 2 1, .goto 34]
def b31_68 : List Instr := [.iinc 1 1, .goto 12]
def b31_74 : List Instr := [.iconst 1, .freturn]
def bk31 : Nat → List Instr := fun pc => match pc with
  | 0 => b31_0
  | 10 => b31_10
  | 12 => b31_12
  | 30 => b31_30
  | 34 => b31_34
  | 62 => b31_62
  | 68 => b31_68
  | 74 => b31_74
  | _ => []
/-- 32: FieldsByDots$Outline.isFoldedAt(I)Z -/
def b32_0 : List Instr := [.aload 0, .iload 1, .invokeinterface 26 2, .istore 2, .aload 0, .iload 1, .invokeinterface 25 2, .istore 3, .aload 0, .iload 2, .iload 3, .iload 1, .invokeinterface 27 4, .ifCond .ne 36, .aload 0, .iload 1, .iload 2, .iload 3, .invokeinterface 28 4, .ifCond .le 36, .iconst 1, .goto 37]
def b32_36 : List Instr := [.iconst 0, .jsr 37]
def b32_37 : List Instr := [.freturn]
def bk32 : Nat → List Instr := fun pc => match pc with
  | 0 => b32_0
  | 36 => b32_36
  | 37 => b32_37
  | _ => []
/-- 33: FieldsByDots$Outline.isTouching(II)Z -/
def b33_0 : List Instr := [.aload 0, .iload 1, .invokeinterface 25 2, .istore 3, .aload 0, .iload 2, .invokeinterface 25 2, .istore 4, .aload 0, .iload 1, .iload 3, .iload 2, .invokeinterface 27 4, .istore 5, .aload 0, .iload 1, .iload 3, .iload 4, .invokeinterface 27 4, .istore 6, .iload 5, .ifCond .ne 80, .iload 6, .ifCond .ne 80, .aload 0, .iload 1, .iload 3, .iload 2, .invokeinterface 29 4, .ifCond .ne 74, .aload 0, .iload 1, .iload 3, .iload 4, .invokeinterface 29 4, .ifCond .ne 74, .aload 0, .iload 2, .iload 4, .iload 1, .invokeinterface 29 4, .ifCond .eq 78, .jsr 74]
def b33_74 : List Instr := [.iconst 1, .goto 79]
def b33_78 : List Instr := [.iconst 0, .jsr 79]
def b33_79 : List Instr := [.freturn]
def b33_80 : List Instr := [.iload 5, .iload 6, .imul, .ifCond .gt 112, .aload 0, .iload 2, .iload 4, .iload 1, .invokeinterface 27 4, .aload 0, .iload 2, .iload 4, .iload 3, .invokeinterface 27 4, .imul, .ifCond .gt 112, .iconst 1, .goto 113]
def b33_112 : List Instr := [.iconst 0, .jsr 113]
def b33_113 : List Instr := [.freturn]
def bk33 : Nat → List Instr := fun pc => match pc with
  | 0 => b33_0
  | 74 => b33_74
  | 78 => b33_78
  | 79 => b33_79
  | 80 => b33_80
  | 112 => b33_112
  | 113 => b33_113
  | _ => []
/-- 34: FieldsByDots$Outline.signedArea()I -/
def b34_0 : List Instr := [.aload 0, .iconst 0, .aload 0, .getfield 66, .iconst 1, .isub, .invokeinterface 35 3, .ireturn]
def bk34 : Nat → List Instr := fun pc => match pc with
  | 0 => b34_0
  | _ => []
/-- 35: FieldsByDots$Outline.signedAreaOf(II)I -/
def b35_0 : List Instr := [.iconst 0, .istore 3, .iload 1, .istore 4, .jsr 5]
def b35_5 : List Instr := [.iload 4, .iload 2, .if_icmp .gt 67, .iload 4, .iload 2, .if_icmp .ge 24, .iload 4, .iconst 1, .iadd, .goto 25]
def b35_24 : List Instr := [.iload 1, .jsr 25]
def b35_25 : List Instr := [.istore 5, .iload 3, .aload 0, .getfield 64, .iload 4, .iaload, .aload 0, .getfield 65, .iload 5, .iaload, .imul, .aload 0, .getfield 64, .iload 5, .iaload, .aload 0, .getfield 65, .iload 4, .iaload, .imul, .isub, .iadd, .istore 3, .iinc 4 1, .goto 5]
def b35_67 : List Instr := [.iload 3, .ireturn]
def bk35 : Nat → List Instr := fun pc => match pc with
  | 0 => b35_0
  | 5 => b35_5
  | 24 => b35_24
  | 25 => b35_25
  | 67 => b35_67
  | _ => []
/-- 36: FieldsByDots$Outline.unlikenessOfSides(II)I -/
def b36_0 : List Instr := [.aload 0, .iload 1, .iload 2, .fsub, .iload 1, .iload 2, .fadd, .invokeinterface 35 3, .istore 3, .aload 0, .invokeinterface 34 1, .iconst 2, .iload 3, .imul, .isub, .fneg, .ireturn]
def bk36 : Nat → List Instr := fun pc => match pc with
  | 0 => b36_0
  | _ => []
/-- 37: FieldsByDots$Outline.fenceDots()I -/
def b37_0 : List Instr := [.iconst 0, .istore 1, .iconst 0, .istore 2, .jsr 4]
def b37_4 : List Instr := [.iload 2, .aload 0, .getfield 66, .if_icmp .ge 62, .aload 0, .iload 2, .invokeinterface 25 2, .istore 3, .iload 1, .aload 0, .getfield 64, .iload 2, .iaload, .aload 0, .getfield 64, .iload 3, .iaload, .isub, .fneg, .aload 0, .getfield 65, .iload 2, .iaload, .aload 0, .getfield 65, .iload 3, .iaload, .isub, .fneg, .invokeinterface 110 2, .iadd, .istore 1, .iinc 2 1, .goto 4]
def b37_62 : List Instr := [.iload 1, .ireturn]
def bk37 : Nat → List Instr := fun pc => match pc with
  | 0 => b37_0
  | 4 => b37_4
  | 62 => b37_62
  | _ => []
/-- 38: FieldsByDots$Outline.innerDots()I -/
def b38_0 : List Instr := [.aload 0, .invokeinterface 34 1, .fneg, .aload 0, .invokeinterface 37 1, .isub, .iconst 2, .idiv, .iconst 1, .iadd, .ireturn]
def bk38 : Nat → List Instr := fun pc => match pc with
  | 0 => b38_0
  | _ => []
/-- 39: FieldsByDots$Outline.bendAt(I)I -/
def b39_0 : List Instr := [.aload 0, .aload 0, .iload 1, .invokeinterface 26 2, .iload 1, .aload 0, .iload 1, .invokeinterface 25 2, .invokeinterface 27 4, .istore 2, .iload 2, .ifCond .ne 22, .iconst 1, .ireturn]
def b39_22 : List Instr := [.iload 2, .ifCond .le 30, .iconst 1, .goto 31]
def b39_30 : List Instr := [.iconst 0, .jsr 31]
def b39_31 : List Instr := [.aload 0, .invokeinterface 34 1, .ifCond .le 42, .iconst 1, .goto 43]
def b39_42 : List Instr := [.iconst 0, .jsr 43]
def b39_43 : List Instr := [.if_icmp .ne 50, .iconst 0, .goto 51]
def b39_50 : List Instr := [.iconst 2, .jsr 51]
def b39_51 : List Instr := [.ireturn]
def bk39 : Nat → List Instr := fun pc => match pc with
  | 0 => b39_0
  | 22 => b39_22
  | 30 => b39_30
  | 31 => b39_31
  | 42 => b39_42
  | 43 => b39_43
  | 50 => b39_50
  | 51 => b39_51
  | _ => []
/-- 40: FieldsByDots$Outline.cornersThat(I)I -/
def b40_0 : List Instr := [.iconst 0, .istore 2, .iconst 0, .istore 3, .jsr 4]
def b40_4 : List Instr := [.iload 3, .aload 0, .getfield 66, .if_icmp .ge 30, .aload 0, .iload 3, .invokeinterface 39 2, .iload 1, .if_icmp .ne 24, .iinc 2 1, .jsr 24]
def b40_24 : List Instr := [.iinc 3 1, .goto 4]
def b40_30 : List Instr := [.iload 2, .ireturn]
def bk40 : Nat → List Instr := fun pc => match pc with
  | 0 => b40_0
  | 4 => b40_4
  | 24 => b40_24
  | 30 => b40_30
  | _ => []
/-- 41: FieldsByDots$Outline.widthBy(II)I -/
def b41_0 : List Instr := [.iload 1, .aload 0, .getfield 64, .iconst 0, .iaload, .imul, .iload 2, .aload 0, .getfield 65, .iconst 0, .iaload, .imul, .iadd, .istore 3, .iload 3, .istore 4, .iconst 1, .istore 5, .jsr 24]
def b41_24 : List Instr := [.iload 5, .aload 0, .getfield 66, .if_icmp .ge 76, .iload 1, .aload 0, .getfield 64, .iload 5, .iaload, .imul, .iload 2, .aload 0, .getfield 65, .iload 5, .iaload, .imul, .iadd, .istore 6, .iload 3, .iload 6, .fsub, .istore 3, .iload 4, .iload 6, .fadd, .istore 4, .iinc 5 1, .goto 24]
def b41_76 : List Instr := [.iload 4, .iload 3, .isub, .ireturn]
def bk41 : Nat → List Instr := fun pc => match pc with
  | 0 => b41_0
  | 24 => b41_24
  | 76 => b41_76
  | _ => []
/-- 42: FieldsByDots$Outline.placeOf(II)I -/
def b42_0 : List Instr := [.iconst 0, .istore 3, .iconst 0, .istore 4, .jsr 5]
def b42_5 : List Instr := [.iload 4, .aload 0, .getfield 66, .if_icmp .ge 172, .aload 0, .iload 4, .invokeinterface 25 2, .istore 5, .iconst 2, .aload 0, .getfield 64, .iload 4, .iaload, .imul, .iload 1, .isub, .istore 6, .iconst 2, .aload 0, .getfield 65, .iload 4, .iaload, .imul, .iload 2, .isub, .istore 7, .iconst 2, .aload 0, .getfield 64, .iload 5, .iaload, .imul, .iload 1, .isub, .istore 8, .iconst 2, .aload 0, .getfield 65, .iload 5, .iaload, .imul, .iload 2, .isub, .istore 9, .iload 6, .iload 9, .imul, .iload 7, .iload 8, .imul, .isub, .istore 10, .iload 10, .ifCond .ne 108, .iload 6, .iload 8, .imul, .iload 7, .iload 9, .imul, .iadd, .ifCond .gt 108, .iconst 0, .ireturn]
def b42_108 : List Instr := [.iload 7, .ifCond .le 117, .iconst 1, .goto 118]
def b42_117 : List Instr := [.iconst 0, .jsr 118]
def b42_118 : List Instr := [.iload 9, .ifCond .le 127, .iconst 1, .goto 128]
def b42_127 : List Instr := [.iconst 0, .jsr 128]
def b42_128 : List Instr := [.if_icmp .eq 166, .iload 10, .ifCond .le 140, .iconst 1, .goto 141]
def b42_140 : List Instr := [.iconst 0, .jsr 141]
def b42_141 : List Instr := [.iload 9, .iload 7, .if_icmp .le 152, .iconst 1, .goto 153]
def b42_152 : List Instr := [.iconst 0, .jsr 153]
def b42_153 : List Instr := [.if_icmp .ne 166, .iload 3, .ifCond .ne 164, .iconst 1, .goto 165]
def b42_164 : List Instr := [.iconst 0, .jsr 165]
def b42_165 : List Instr := [.istore 3, .jsr 166]
def b42_166 : List Instr := [.iinc 4 1, .goto 5]
def b42_172 : List Instr := [.iload 3, .ifCond .eq 180, .iconst 1, .goto 181]
def b42_180 : List Instr := [.iconst 2, .jsr 181]
def b42_181 : List Instr := [.ireturn]
def bk42 : Nat → List Instr := fun pc => match pc with
  | 0 => b42_0
  | 5 => b42_5
  | 108 => b42_108
  | 117 => b42_117
  | 118 => b42_118
  | 127 => b42_127
  | 128 => b42_128
  | 140 => b42_140
  | 141 => b42_141
  | 152 => b42_152
  | 153 => b42_153
  | 164 => b42_164
  | 165 => b42_165
  | 166 => b42_166
  | 172 => b42_172
  | 180 => b42_180
  | 181 => b42_181
  | _ => []
/-- 43: FieldsByDots$Outline.isInOneLine()Z -/
def b43_0 : List Instr := [.iconst 2, .istore 1, .jsr 2]
def b43_2 : List Instr := [.iload 1, .aload 0, .getfield 66, .if_icmp .ge 28, .aload 0, .iconst 0, .iconst 1, .iload 1, .invokeinterface 27 4, .ifCond .eq 22, .iconst 0, .freturn]
def b43_22 : List Instr := [.iinc 1 1, .goto 2]
def b43_28 : List Instr := [.iconst 1, .freturn]
def bk43 : Nat → List Instr := fun pc => match pc with
  | 0 => b43_0
  | 2 => b43_2
  | 22 => b43_22
  | 28 => b43_28
  | _ => []
/-- 44: FieldsByDots$Outline.hullInto(LFieldsByDots$Outline;)V -/
def b44_0 : List Instr := [.iconst 0, .istore 2, .iconst 1, .istore 3, .jsr 4]
def b44_4 : List Instr := [.iload 3, .aload 0, .getfield 66, .if_icmp .ge 65, .aload 0, .getfield 64, .iload 3, .iaload, .aload 0, .getfield 64, .iload 2, .iaload, .if_icmp .lt 57, .aload 0, .getfield 64, .iload 3, .iaload, .aload 0, .getfield 64, .iload 2, .iaload, .if_icmp .ne 59, .aload 0, .getfield 65, .iload 3, .iaload, .aload 0, .getfield 65, .iload 2, .iaload, .if_icmp .ge 59, .jsr 57]
def b44_57 : List Instr := [.iload 3, .istore 2, .jsr 59]
def b44_59 : List Instr := [.iinc 3 1, .goto 4]
def b44_65 : List Instr := [.aload 1, .iconst 0, .putfield 66, .iload 2, .istore 3, .iconst 0, .istore 4, .jsr 75]
def b44_75 : List Instr := [.iload 4, .aload 0, .getfield 66, .if_icmp .ge 122, .aload 1, .aload 1, .getfield 66, .aload 0, .getfield 64, .iload 3, .iaload, .aload 0, .getfield 65, .iload 3, .iaload, .invokeinterface 19 4, .aload 0, .iload 3, .invokeinterface 45 2, .istore 3, .iload 3, .iload 2, .if_icmp .ne 116, .return_]
def b44_116 : List Instr := [.iinc 4 1, .goto 75]
def b44_122 : List Instr := [.return_]
def bk44 : Nat → List Instr := fun pc => match pc with
  | 0 => b44_0
  | 4 => b44_4
  | 57 => b44_57
  | 59 => b44_59
  | 65 => b44_65
  | 75 => b44_75
  | 116 => b44_116
  | 122 => b44_122
  | _ => []
/-- 45: FieldsByDots$Outline.rightmostFrom(I)I -/
def b45_0 : List Instr := [.aload 0, .iload 1, .invokeinterface 25 2, .istore 2, .iconst 0, .istore 3, .jsr 8]
def b45_8 : List Instr := [.iload 3, .aload 0, .getfield 66, .if_icmp .ge 63, .iload 3, .iload 1, .if_icmp .eq 57, .iload 3, .iload 2, .if_icmp .eq 57, .aload 0, .iload 1, .iload 2, .iload 3, .invokeinterface 27 4, .istore 4, .iload 4, .ifCond .lt 55, .iload 4, .ifCond .ne 57, .aload 0, .iload 1, .iload 3, .iload 2, .invokeinterface 29 4, .ifCond .eq 57, .jsr 55]
def b45_55 : List Instr := [.iload 3, .istore 2, .jsr 57]
def b45_57 : List Instr := [.iinc 3 1, .goto 8]
def b45_63 : List Instr := [.iload 2, .ireturn]
def bk45 : Nat → List Instr := fun pc => match pc with
  | 0 => b45_0
  | 8 => b45_8
  | 55 => b45_55
  | 57 => b45_57
  | 63 => b45_63
  | _ => []
/-- 46: FieldsByDots$Outline.isSeen(II)Z -/
def b46_0 : List Instr := [.iload 1, .istore 3, .iconst 0, .istore 4, .jsr 5]
def b46_5 : List Instr := [.iload 4, .aload 0, .getfield 66, .if_icmp .ge 59, .iload 3, .iload 2, .if_icmp .eq 59, .aload 0, .iload 3, .iload 2, .invokeinterface 48 3, .istore 5, .aload 0, .iload 3, .iload 5, .invokeinterface 49 3, .ifCond .ne 48, .aload 0, .iload 3, .iload 5, .invokeinterface 50 3, .iconst 2, .if_icmp .ne 50, .jsr 48]
def b46_48 : List Instr := [.iconst 0, .freturn]
def b46_50 : List Instr := [.iload 5, .istore 3, .iinc 4 1, .goto 5]
def b46_59 : List Instr := [.iconst 1, .freturn]
def bk46 : Nat → List Instr := fun pc => match pc with
  | 0 => b46_0
  | 5 => b46_5
  | 48 => b46_48
  | 50 => b46_50
  | 59 => b46_59
  | _ => []
/-- 47: FieldsByDots$Outline.isStrip(II)Z -/
def b47_0 : List Instr := [.iload 1, .iload 2, .if_icmp .eq 23, .aload 0, .iload 1, .invokeinterface 25 2, .iload 2, .if_icmp .eq 23, .aload 0, .iload 2, .invokeinterface 25 2, .iload 1, .if_icmp .ne 25, .jsr 23]
def b47_23 : List Instr := [.iconst 0, .freturn]
def b47_25 : List Instr := [.aload 0, .iload 1, .iload 2, .invokeinterface 48 3, .iload 2, .if_icmp .ne 58, .aload 0, .iload 1, .iload 2, .invokeinterface 49 3, .ifCond .ne 58, .aload 0, .iload 1, .iload 2, .invokeinterface 50 3, .iconst 1, .if_icmp .ne 58, .iconst 1, .goto 59]
def b47_58 : List Instr := [.iconst 0, .jsr 59]
def b47_59 : List Instr := [.freturn]
def bk47 : Nat → List Instr := fun pc => match pc with
  | 0 => b47_0
  | 23 => b47_23
  | 25 => b47_25
  | 58 => b47_58
  | 59 => b47_59
  | _ => []
/-- 48: FieldsByDots$Outline.nearestToward(II)I -/
def b48_0 : List Instr := [.iload 2, .istore 3, .iconst 0, .istore 4, .jsr 5]
def b48_5 : List Instr := [.iload 4, .aload 0, .getfield 66, .if_icmp .ge 34, .aload 0, .iload 1, .iload 3, .iload 4, .invokeinterface 29 4, .ifCond .eq 28, .iload 4, .istore 3, .jsr 28]
def b48_28 : List Instr := [.iinc 4 1, .goto 5]
def b48_34 : List Instr := [.iload 3, .ireturn]
def bk48 : Nat → List Instr := fun pc => match pc with
  | 0 => b48_0
  | 5 => b48_5
  | 28 => b48_28
  | 34 => b48_34
  | _ => []
/-- 49: FieldsByDots$Outline.isCrossed(II)Z -/
def b49_0 : List Instr := [.iconst 0, .istore 3, .jsr 2]
def b49_2 : List Instr := [.iload 3, .aload 0, .getfield 66, .if_icmp .ge 33, .aload 0, .iload 1, .iload 2, .iload 3, .aload 0, .iload 3, .invokeinterface 25 2, .invokeinterface 30 5, .ifCond .eq 27, .iconst 1, .freturn]
def b49_27 : List Instr := [.iinc 3 1, .goto 2]
def b49_33 : List Instr := [.iconst 0, .freturn]
def bk49 : Nat → List Instr := fun pc => match pc with
  | 0 => b49_0
  | 2 => b49_2
  | 27 => b49_27
  | 33 => b49_33
  | _ => []
/-- 50: FieldsByDots$Outline.placeOfMiddle(II)I -/
def b50_0 : List Instr := [.aload 0, .aload 0, .getfield 64, .iload 1, .iaload, .aload 0, .getfield 64, .iload 2, .iaload, .iadd, .aload 0, .getfield 65, .iload 1, .iaload, .aload 0, .getfield 65, .iload 2, .iaload, .iadd, .invokeinterface 42 3, .ireturn]
def bk50 : Nat → List Instr := fun pc => match pc with
  | 0 => b50_0
  | _ => []
/-- 51: FieldsByDots$Outline.longBy(II)I -/
def b51_0 : List Instr := [.aload 0, .getfield 64, .iload 1, .iaload, .aload 0, .getfield 64, .iload 2, .iaload, .isub, .istore 3, .aload 0, .getfield 65, .iload 1, .iaload, .aload 0, .getfield 65, .iload 2, .iaload, .isub, .istore 4, .iload 3, .iload 3, .imul, .iload 4, .iload 4, .imul, .iadd, .ireturn]
def bk51 : Nat → List Instr := fun pc => match pc with
  | 0 => b51_0
  | _ => []
/-- 52: FieldsByDots$Sights.<init>()V -/
def b52_0 : List Instr := [.aload 0, .monitorenter, .aload 0, .iconst 10, .newarray .int, .putfield 96, .aload 0, .iconst 10, .newarray .int, .putfield 97, .return_]
def bk52 : Nat → List Instr := fun pc => match pc with
  | 0 => b52_0
  | _ => []
/-- 53: FieldsByDots$Sights.lookAt(LFieldsByDots$Outline;)V -/
def b53_0 : List Instr := [.aload 0, .aload 1, .getfield 66, .putfield 98, .iconst 0, .istore 2, .jsr 10]
def b53_10 : List Instr := [.iload 2, .aload 0, .getfield 98, .if_icmp .ge 38, .aload 0, .getfield 96, .iload 2, .iconst 0, .iastore, .aload 0, .getfield 97, .iload 2, .iconst 0, .iastore, .iinc 2 1, .goto 10]
def b53_38 : List Instr := [.iconst 0, .istore 2, .jsr 40]
def b53_40 : List Instr := [.iload 2, .aload 0, .getfield 98, .if_icmp .ge 135, .iload 2, .iconst 1, .iadd, .istore 3, .jsr 52]
def b53_52 : List Instr := [.iload 3, .aload 0, .getfield 98, .if_icmp .ge 129, .aload 1, .iload 2, .iload 3, .invokeinterface 47 3, .istore 4, .iload 4, .ifCond .eq 85, .aload 0, .getfield 97, .iload 2, .dup2, .iaload, .iconst 1, .iload 3, .ishl, .ior, .iastore, .jsr 85]
def b53_85 : List Instr := [.iload 4, .ifCond .ne 99, .aload 1, .iload 2, .iload 3, .invokeinterface 46 3, .ifCond .eq 123, .jsr 99]
def b53_99 : List Instr := [.aload 0, .getfield 96, .iload 2, .dup2, .iaload, .iconst 1, .iload 3, .ishl, .ior, .iastore, .aload 0, .getfield 96, .iload 3, .dup2, .iaload, .iconst 1, .iload 2, .ishl, .ior, .iastore, .jsr 123]
def b53_123 : List Instr := [.iinc 3 1, .goto 52]
def b53_129 : List Instr := [.iinc 2 1, .goto 40]
def b53_135 : List Instr := [.return_]
def bk53 : Nat → List Instr := fun pc => match pc with
  | 0 => b53_0
  | 10 => b53_10
  | 38 => b53_38
  | 40 => b53_40
  | 52 => b53_52
  | 85 => b53_85
  | 99 => b53_99
  | 123 => b53_123
  | 129 => b53_129
  | 135 => b53_135
  | _ => []
/-- 54: FieldsByDots$Sights.hasStrip(II)Z -/
def b54_0 : List Instr := [.aload 0, .getfield 97, .iload 1, .iaload, .iload 2, .ishr, .iconst 1, .iand, .iconst 1, .if_icmp .ne 18, .iconst 1, .goto 19]
def b54_18 : List Instr := [.iconst 0, .jsr 19]
def b54_19 : List Instr := [.freturn]
def bk54 : Nat → List Instr := fun pc => match pc with
  | 0 => b54_0
  | 18 => b54_18
  | 19 => b54_19
  | _ => []
/-- 55: FieldsByDots$Sights.stripNumber()I -/
def b55_0 : List Instr := [.iconst 0, .istore 1, .iconst 0, .istore 2, .jsr 4]
def b55_4 : List Instr := [.iload 2, .aload 0, .getfield 98, .if_icmp .ge 30, .iload 1, .aload 0, .getfield 97, .iload 2, .iaload, .invokeinterface 185 1, .iadd, .istore 1, .iinc 2 1, .goto 4]
def b55_30 : List Instr := [.iload 1, .ireturn]
def bk55 : Nat → List Instr := fun pc => match pc with
  | 0 => b55_0
  | 4 => b55_4
  | 30 => b55_30
  | _ => []
/-- 56: FieldsByDots$Sights.withSeen(I)I -/
def b56_0 : List Instr := [.iload 1, .istore 2, .iconst 0, .istore 3, .jsr 4]
def b56_4 : List Instr := [.iload 3, .aload 0, .getfield 98, .if_icmp .ge 36, .iload 1, .iload 3, .ishr, .iconst 1, .iand, .iconst 1, .if_icmp .ne 30, .iload 2, .aload 0, .getfield 96, .iload 3, .iaload, .ior, .istore 2, .jsr 30]
def b56_30 : List Instr := [.iinc 3 1, .goto 4]
def b56_36 : List Instr := [.iload 2, .ireturn]
def bk56 : Nat → List Instr := fun pc => match pc with
  | 0 => b56_0
  | 4 => b56_4
  | 30 => b56_30
  | 36 => b56_36
  | _ => []
/-- 57: FieldsByDots$Sights.fewestThatSeeAll()I -/
def b57_0 : List Instr := [.iconst 1, .aload 0, .getfield 98, .ishl, .iconst 1, .isub, .istore 1, .iload 1, .istore 2, .iconst 1, .istore 3, .jsr 13]
def b57_13 : List Instr := [.iload 3, .iload 1, .if_icmp .ge 46, .iload 3, .invokeinterface 185 1, .iload 2, .invokeinterface 185 1, .if_icmp .ge 40, .aload 0, .iload 3, .invokeinterface 56 2, .iload 1, .if_icmp .ne 40, .iload 3, .istore 2, .jsr 40]
def b57_40 : List Instr := [.iinc 3 1, .goto 13]
def b57_46 : List Instr := [.iload 2, .ireturn]
def bk57 : Nat → List Instr := fun pc => match pc with
  | 0 => b57_0
  | 13 => b57_13
  | 40 => b57_40
  | 46 => b57_46
  | _ => []
/-- 58: FieldsByDots$Sights.stepsBetween(II)I -/
def b58_0 : List Instr := [.iconst 1, .iload 1, .ishl, .istore 3, .iconst 0, .istore 4, .jsr 7]
def b58_7 : List Instr := [.iload 4, .aload 0, .getfield 98, .if_icmp .ge 36, .iload 3, .iload 2, .ishr, .iconst 1, .iand, .ifCond .ne 36, .aload 0, .iload 3, .invokeinterface 56 2, .istore 3, .iinc 4 1, .goto 7]
def b58_36 : List Instr := [.iload 4, .ireturn]
def bk58 : Nat → List Instr := fun pc => match pc with
  | 0 => b58_0
  | 7 => b58_7
  | 36 => b58_36
  | _ => []
/-- 59: FieldsByDots$Text.<init>()V -/
def b59_0 : List Instr := [.aload 0, .monitorenter, .aload 0, .iconst 24, .newarray .int, .putfield 128, .return_]
def bk59 : Nat → List Instr := fun pc => match pc with
  | 0 => b59_0
  | _ => []
/-- 60: FieldsByDots$Text.append(IJ)V -/
def b60_0 : List Instr := [.iload 1, .iconst 1, .isub, .istore 4, .jsr 5]
def b60_5 : List Instr := [.iload 4, .ifCond .lt 47, .aload 0, .getfield 128, .aload 0, .getfield 129, .lload 2, .iconst 8, .iload 4, .imul, .lshr, .l2i, .iconst 255, .iand, .iastore, .aload 0, .dup, .getfield 129, .iconst 1, .iadd, .putfield 129, .iinc 4 (-1), .goto 5]
def b60_47 : List Instr := [.return_]
def bk60 : Nat → List Instr := fun pc => match pc with
  | 0 => b60_0
  | 5 => b60_5
  | 47 => b60_47
  | _ => []
/-- 61: FieldsByDots$Text.firstFault()I -/
def b61_0 : List Instr := [.iconst 0, .istore 1, .jsr 2]
def b61_2 : List Instr := [.iload 1, .aload 0, .getfield 129, .if_icmp .ge 26, .aload 0, .iload 1, .invokeinterface 62 2, .ifCond .eq 20, .iload 1, .ireturn]
def b61_20 : List Instr := [.iinc 1 1, .goto 2]
def b61_26 : List Instr := [.aload 0, .getfield 129, .iconst 6, .if_icmp .lt 48, .aload 0, .getfield 129, .iconst 2, .irem, .ifCond .ne 48, .iconst 1, .goto 49]
def b61_48 : List Instr := [.iconst 0, .jsr 49]
def b61_49 : List Instr := [.istore 1, .iload 1, .ifCond .eq 59, .iconst (-9), .goto 63]
def b61_59 : List Instr := [.aload 0, .getfield 129, .jsr 63]
def b61_63 : List Instr := [.ireturn]
def bk61 : Nat → List Instr := fun pc => match pc with
  | 0 => b61_0
  | 2 => b61_2
  | 20 => b61_20
  | 26 => b61_26
  | 48 => b61_48
  | 49 => b61_49
  | 59 => b61_59
  | 63 => b61_63
  | _ => []
/-- 62: FieldsByDots$Text.isFaulty(I)Z -/
def b62_0 : List Instr := [.iload 1, .iconst 20, .if_icmp .ge 20, .aload 0, .getfield 128, .iload 1, .iaload, .invokeinterface 64 1, .iconst (-9), .if_icmp .ne 22, .jsr 20]
def b62_20 : List Instr := [.iconst 1, .freturn]
def b62_22 : List Instr := [.iload 1, .iconst 2, .irem, .iconst 1, .if_icmp .ne 41, .aload 0, .iload 1, .invokeinterface 63 2, .ifCond .eq 41, .iconst 1, .goto 42]
def b62_41 : List Instr := [.iconst 0, .jsr 42]
def b62_42 : List Instr := [.freturn]
def bk62 : Nat → List Instr := fun pc => match pc with
  | 0 => b62_0
  | 20 => b62_20
  | 22 => b62_22
  | 41 => b62_41
  | 42 => b62_42
  | _ => []
/-- 63: FieldsByDots$Text.isToldBefore(I)Z -/
def b63_0 : List Instr := [.iconst 1, .istore 2, .jsr 2]
def b63_2 : List Instr := [.iload 2, .iload 1, .if_icmp .ge 49, .aload 0, .getfield 128, .iload 2, .iconst 1, .isub, .iaload, .aload 0, .getfield 128, .iload 1, .iconst 1, .isub, .iaload, .if_icmp .ne 43, .aload 0, .getfield 128, .iload 2, .iaload, .aload 0, .getfield 128, .iload 1, .iaload, .if_icmp .ne 43, .iconst 1, .freturn]
def b63_43 : List Instr := [.iinc 2 2, .goto 2]
def b63_49 : List Instr := [.iconst 0, .freturn]
def bk63 : Nat → List Instr := fun pc => match pc with
  | 0 => b63_0
  | 2 => b63_2
  | 43 => b63_43
  | 49 => b63_49
  | _ => []
/-- 64: FieldsByDots$Text.valueOf(I)I -/
def b64_0 : List Instr := [.iload 0, .iconst 48, .if_icmp .lt 17, .iload 0, .iconst 57, .if_icmp .gt 17, .iload 0, .iconst 48, .isub, .ireturn]
def b64_17 : List Instr := [.iload 0, .iconst 97, .if_icmp .lt 39, .iload 0, .iconst 102, .if_icmp .gt 39, .iload 0, .iconst 97, .isub, .iconst 10, .iadd, .goto 41]
def b64_39 : List Instr := [.iconst (-9), .jsr 41]
def b64_41 : List Instr := [.ireturn]
def bk64 : Nat → List Instr := fun pc => match pc with
  | 0 => b64_0
  | 17 => b64_17
  | 39 => b64_39
  | 41 => b64_41
  | _ => []
/-- 65: FieldsByDots$Text.tellInto(LFieldsByDots$Outline;)V -/
def b65_0 : List Instr := [.aload 1, .aload 0, .getfield 129, .iconst 2, .idiv, .putfield 66, .iconst 0, .istore 2, .jsr 12]
def b65_12 : List Instr := [.iload 2, .aload 1, .getfield 66, .if_icmp .ge 62, .aload 1, .getfield 64, .iload 2, .aload 0, .getfield 128, .iconst 2, .iload 2, .imul, .iaload, .invokeinterface 64 1, .iastore, .aload 1, .getfield 65, .iload 2, .aload 0, .getfield 128, .iconst 2, .iload 2, .imul, .iconst 1, .iadd, .iaload, .invokeinterface 64 1, .iastore, .iinc 2 1, .goto 12]
def b65_62 : List Instr := [.return_]
def bk65 : Nat → List Instr := fun pc => match pc with
  | 0 => b65_0
  | 12 => b65_12
  | 62 => b65_62
  | _ => []
/-- 66: FieldsByDots.<init>()V -/
def b66_0 : List Instr := [.aload 0, .monitorenter, .aload 0, .new 4, .dup, .invokeinterface 59 1, .putfield 160, .aload 0, .iconst 4, .anewarray 2, .putfield 161, .iconst 0, .istore 1, .jsr 25]
def b66_25 : List Instr := [.iload 1, .iconst 4, .if_icmp .ge 49, .aload 0, .getfield 161, .iload 1, .new 2, .dup, .invokeinterface 15 1, .aastore, .iinc 1 1, .goto 25]
def b66_49 : List Instr := [.aload 0, .iconst 8, .anewarray 2, .putfield 162, .iconst 0, .istore 1, .jsr 60]
def b66_60 : List Instr := [.iload 1, .iconst 8, .if_icmp .ge 85, .aload 0, .getfield 162, .iload 1, .new 2, .dup, .invokeinterface 15 1, .aastore, .iinc 1 1, .goto 60]
def b66_85 : List Instr := [.aload 0, .iconst 2, .newarray .boolean, .putfield 163, .aload 0, .new 2, .dup, .invokeinterface 15 1, .putfield 164, .aload 0, .new 3, .dup, .invokeinterface 52 1, .putfield 165, .aload 0, .new 0, .dup, .invokeinterface 0 1, .putfield 166, .aload 0, .new 1, .dup, .invokeinterface 10 1, .putfield 167, .return_]
def bk66 : Nat → List Instr := fun pc => match pc with
  | 0 => b66_0
  | 25 => b66_25
  | 49 => b66_49
  | 60 => b66_60
  | 85 => b66_85
  | _ => []
/-- 67: FieldsByDots.write(IJ)I -/
def b67_0 : List Instr := [.iload 1, .iconst 1, .if_icmp .lt 11, .iload 1, .iconst 8, .if_icmp .le 14, .jsr 11]
def b67_11 : List Instr := [.iconst (-2), .ireturn]
def b67_14 : List Instr := [.aload 0, .getfield 160, .getfield 129, .iload 1, .iadd, .iconst 24, .if_icmp .le 31, .iconst (-4), .ireturn]
def b67_31 : List Instr := [.aload 0, .getfield 160, .iload 1, .lload 2, .invokeinterface 60 3, .aload 0, .getfield 160, .getfield 129, .ireturn]
def bk67 : Nat → List Instr := fun pc => match pc with
  | 0 => b67_0
  | 11 => b67_11
  | 14 => b67_14
  | 31 => b67_31
  | _ => []
/-- 68: FieldsByDots.wipe()I -/
def b68_0 : List Instr := [.aload 0, .getfield 160, .getfield 129, .istore 1, .aload 0, .getfield 160, .iconst 0, .putfield 129, .iload 1, .ireturn]
def bk68 : Nat → List Instr := fun pc => match pc with
  | 0 => b68_0
  | _ => []
/-- 69: FieldsByDots.fault()I -/
def b69_0 : List Instr := [.aload 0, .getfield 160, .invokeinterface 61 1, .ireturn]
def bk69 : Nat → List Instr := fun pc => match pc with
  | 0 => b69_0
  | _ => []
/-- 70: FieldsByDots.field(I)I -/
def b70_0 : List Instr := [.iload 1, .invokeinterface 98 1, .ifCond .ne 9, .iconst (-1), .ireturn]
def b70_9 : List Instr := [.aload 0, .getfield 160, .invokeinterface 61 1, .iconst (-9), .if_icmp .eq 24, .iconst (-3), .ireturn]
def b70_24 : List Instr := [.aload 0, .getfield 160, .aload 0, .getfield 161, .iload 1, .aaload, .invokeinterface 65 2, .aload 0, .getfield 161, .iload 1, .aaload, .getfield 66, .ireturn]
def bk70 : Nat → List Instr := fun pc => match pc with
  | 0 => b70_0
  | 9 => b70_9
  | 24 => b70_24
  | _ => []
/-- 71: FieldsByDots.corner(III)I -/
def b71_0 : List Instr := [.aload 0, .iload 1, .iload 2, .invokeinterface 101 3, .ifCond .ne 11, .iconst (-1), .ireturn]
def b71_11 : List Instr := [.iload 3, .ifCond .eq 23, .iload 3, .iconst 1, .if_icmp .eq 23, .iconst (-2), .ireturn]
def b71_23 : List Instr := [.iload 3, .ifCond .ne 41, .aload 0, .getfield 161, .iload 1, .aaload, .getfield 64, .iload 2, .iaload, .goto 52]
def b71_41 : List Instr := [.aload 0, .getfield 161, .iload 1, .aaload, .getfield 65, .iload 2, .iaload, .jsr 52]
def b71_52 : List Instr := [.ireturn]
def bk71 : Nat → List Instr := fun pc => match pc with
  | 0 => b71_0
  | 11 => b71_11
  | 23 => b71_23
  | 41 => b71_41
  | 52 => b71_52
  | _ => []
/-- 72: FieldsByDots.move(IIII)I -/
def b72_0 : List Instr := [.aload 0, .iload 1, .iload 2, .invokeinterface 101 3, .ifCond .ne 11, .iconst (-1), .ireturn]
def b72_11 : List Instr := [.iload 3, .iload 4, .invokeinterface 99 2, .ifCond .ne 23, .iconst (-2), .ireturn]
def b72_23 : List Instr := [.aload 0, .getfield 161, .iload 1, .aaload, .iload 3, .iload 4, .invokeinterface 17 3, .istore 5, .iload 5, .iload 2, .if_icmp .ne 45, .iconst 0, .ireturn]
def b72_45 : List Instr := [.iload 5, .iconst (-9), .if_icmp .eq 55, .iconst (-3), .ireturn]
def b72_55 : List Instr := [.aload 0, .getfield 161, .iload 1, .aaload, .getfield 64, .iload 2, .iload 3, .iastore, .aload 0, .getfield 161, .iload 1, .aaload, .getfield 65, .iload 2, .iload 4, .iastore, .iconst 1, .ireturn]
def bk72 : Nat → List Instr := fun pc => match pc with
  | 0 => b72_0
  | 11 => b72_11
  | 23 => b72_23
  | 45 => b72_45
  | 55 => b72_55
  | _ => []
/-- 73: FieldsByDots.put(IIII)I -/
def b73_0 : List Instr := [.iload 1, .invokeinterface 98 1, .ifCond .eq 24, .iload 2, .ifCond .lt 24, .iload 2, .aload 0, .getfield 161, .iload 1, .aaload, .getfield 66, .if_icmp .le 26, .jsr 24]
def b73_24 : List Instr := [.iconst (-1), .ireturn]
def b73_26 : List Instr := [.iload 3, .iload 4, .invokeinterface 99 2, .ifCond .ne 38, .iconst (-2), .ireturn]
def b73_38 : List Instr := [.aload 0, .getfield 161, .iload 1, .aaload, .iload 3, .iload 4, .invokeinterface 17 3, .iconst (-9), .if_icmp .eq 58, .iconst (-3), .ireturn]
def b73_58 : List Instr := [.aload 0, .getfield 161, .iload 1, .aaload, .getfield 66, .iconst 10, .if_icmp .lt 75, .iconst (-4), .ireturn]
def b73_75 : List Instr := [.aload 0, .getfield 161, .iload 1, .aaload, .iload 2, .iload 3, .iload 4, .invokeinterface 19 4, .aload 0, .getfield 161, .iload 1, .aaload, .getfield 66, .ireturn]
def bk73 : Nat → List Instr := fun pc => match pc with
  | 0 => b73_0
  | 24 => b73_24
  | 26 => b73_26
  | 38 => b73_38
  | 58 => b73_58
  | 75 => b73_75
  | _ => []
/-- 74: FieldsByDots.take(II)I -/
def b74_0 : List Instr := [.aload 0, .iload 1, .iload 2, .invokeinterface 101 3, .ifCond .ne 11, .iconst (-1), .ireturn]
def b74_11 : List Instr := [.aload 0, .getfield 161, .iload 1, .aaload, .getfield 66, .iconst 3, .if_icmp .gt 27, .iconst (-3), .ireturn]
def b74_27 : List Instr := [.aload 0, .getfield 161, .iload 1, .aaload, .iload 2, .invokeinterface 20 2, .aload 0, .getfield 161, .iload 1, .aaload, .getfield 66, .ireturn]
def bk74 : Nat → List Instr := fun pc => match pc with
  | 0 => b74_0
  | 11 => b74_11
  | 27 => b74_27
  | _ => []
/-- 75: FieldsByDots.turn(II)I -/
def b75_0 : List Instr := [.iload 1, .invokeinterface 98 1, .ifCond .ne 9, .iconst (-1), .ireturn]
def b75_9 : List Instr := [.iload 2, .ifCond .lt 19, .iload 2, .iconst 7, .if_icmp .le 22, .jsr 19]
def b75_19 : List Instr := [.iconst (-2), .ireturn]
def b75_22 : List Instr := [.iload 2, .iconst 4, .if_icmp .lt 36, .aload 0, .getfield 161, .iload 1, .aaload, .invokeinterface 21 1, .jsr 36]
def b75_36 : List Instr := [.iconst 0, .istore 3, .jsr 38]
def b75_38 : List Instr := [.iload 3, .iload 2, .iconst 3, .iand, .if_icmp .ge 60, .aload 0, .getfield 161, .iload 1, .aaload, .invokeinterface 22 1, .iinc 3 1, .goto 38]
def b75_60 : List Instr := [.aload 0, .getfield 161, .iload 1, .aaload, .getfield 66, .ireturn]
def bk75 : Nat → List Instr := fun pc => match pc with
  | 0 => b75_0
  | 9 => b75_9
  | 19 => b75_19
  | 22 => b75_22
  | 36 => b75_36
  | 38 => b75_38
  | 60 => b75_60
  | _ => []
/-- 76: FieldsByDots.shift(III)I -/
def b76_0 : List Instr := [.iload 1, .invokeinterface 98 1, .ifCond .ne 9, .iconst (-1), .ireturn]
def b76_9 : List Instr := [.iload 2, .iconst (-15), .if_icmp .lt 33, .iload 2, .iconst 15, .if_icmp .gt 33, .iload 3, .iconst (-15), .if_icmp .lt 33, .iload 3, .iconst 15, .if_icmp .le 36, .jsr 33]
def b76_33 : List Instr := [.iconst (-2), .ireturn]
def b76_36 : List Instr := [.aload 0, .getfield 161, .iload 1, .aaload, .iload 2, .iload 3, .invokeinterface 23 3, .ifCond .ne 53, .iconst (-3), .ireturn]
def b76_53 : List Instr := [.aload 0, .getfield 161, .iload 1, .aaload, .iload 2, .iload 3, .invokeinterface 24 3, .aload 0, .getfield 161, .iload 1, .aaload, .getfield 66, .ireturn]
def bk76 : Nat → List Instr := fun pc => match pc with
  | 0 => b76_0
  | 9 => b76_9
  | 33 => b76_33
  | 36 => b76_36
  | 53 => b76_53
  | _ => []
/-- 77: FieldsByDots.sound(I)I -/
def b77_0 : List Instr := [.iload 1, .invokeinterface 98 1, .ifCond .ne 9, .iconst (-1), .ireturn]
def b77_9 : List Instr := [.aload 0, .getfield 161, .iload 1, .aaload, .invokeinterface 31 1, .ifCond .eq 25, .iconst 1, .goto 26]
def b77_25 : List Instr := [.iconst 0, .jsr 26]
def b77_26 : List Instr := [.ireturn]
def bk77 : Nat → List Instr := fun pc => match pc with
  | 0 => b77_0
  | 9 => b77_9
  | 25 => b77_25
  | 26 => b77_26
  | _ => []
/-- 78: FieldsByDots.about(II)I -/
def b78_0 : List Instr := [.iload 1, .invokeinterface 98 1, .ifCond .ne 9, .iconst (-1), .ireturn]
def b78_9 : List Instr := [.iload 2, .ifCond .lt 19, .iload 2, .iconst 8, .if_icmp .le 22, .jsr 19]
def b78_19 : List Instr := [.iconst (-2), .ireturn]
def b78_22 : List Instr := [.aload 0, .getfield 161, .iload 1, .aaload, .invokeinterface 31 1, .ifCond .ne 37, .iconst (-3), .ireturn]
def b78_37 : List Instr := [.iload 2, .iconst 6, .if_icmp .ge 56, .aload 0, .getfield 161, .iload 1, .aaload, .iload 2, .invokeinterface 104 2, .goto 67]
def b78_56 : List Instr := [.aload 0, .aload 0, .getfield 161, .iload 1, .aaload, .iload 2, .invokeinterface 105 3, .jsr 67]
def b78_67 : List Instr := [.ireturn]
def bk78 : Nat → List Instr := fun pc => match pc with
  | 0 => b78_0
  | 9 => b78_9
  | 19 => b78_19
  | 22 => b78_22
  | 37 => b78_37
  | 56 => b78_56
  | 67 => b78_67
  | _ => []
/-- 79: FieldsByDots.where(III)I -/
def b79_0 : List Instr := [.iload 1, .invokeinterface 98 1, .ifCond .ne 9, .iconst (-1), .ireturn]
def b79_9 : List Instr := [.iload 2, .iload 3, .invokeinterface 99 2, .ifCond .ne 20, .iconst (-2), .ireturn]
def b79_20 : List Instr := [.aload 0, .getfield 161, .iload 1, .aaload, .invokeinterface 31 1, .ifCond .ne 35, .iconst (-3), .ireturn]
def b79_35 : List Instr := [.aload 0, .getfield 161, .iload 1, .aaload, .iconst 2, .iload 2, .imul, .iconst 2, .iload 3, .imul, .invokeinterface 42 3, .ireturn]
def bk79 : Nat → List Instr := fun pc => match pc with
  | 0 => b79_0
  | 9 => b79_9
  | 20 => b79_20
  | 35 => b79_35
  | _ => []
/-- 80: FieldsByDots.how(II)I -/
def b80_0 : List Instr := [.aload 0, .iload 1, .iload 2, .invokeinterface 101 3, .ifCond .ne 11, .iconst (-1), .ireturn]
def b80_11 : List Instr := [.aload 0, .getfield 161, .iload 1, .aaload, .invokeinterface 31 1, .ifCond .ne 26, .iconst (-3), .ireturn]
def b80_26 : List Instr := [.aload 0, .getfield 161, .iload 1, .aaload, .iload 2, .invokeinterface 39 2, .ireturn]
def bk80 : Nat → List Instr := fun pc => match pc with
  | 0 => b80_0
  | 11 => b80_11
  | 26 => b80_26
  | _ => []
/-- 81: FieldsByDots.wide(III)I -/
def b81_0 : List Instr := [.iload 1, .invokeinterface 98 1, .ifCond .ne 9, .iconst (-1), .ireturn]
def b81_9 : List Instr := [.iload 2, .iload 3, .invokeinterface 100 2, .ifCond .ne 20, .iconst (-2), .ireturn]
def b81_20 : List Instr := [.aload 0, .getfield 161, .iload 1, .aaload, .getfield 66, .ifCond .ne 35, .iconst (-3), .ireturn]
def b81_35 : List Instr := [.aload 0, .getfield 161, .iload 1, .aaload, .iload 2, .iload 3, .invokeinterface 41 3, .ireturn]
def bk81 : Nat → List Instr := fun pc => match pc with
  | 0 => b81_0
  | 9 => b81_9
  | 20 => b81_20
  | 35 => b81_35
  | _ => []
/-- 82: FieldsByDots.narrow(II)I -/
def b82_0 : List Instr := [.iload 1, .invokeinterface 98 1, .ifCond .ne 9, .iconst (-1), .ireturn]
def b82_9 : List Instr := [.iload 2, .ifCond .lt 18, .iload 2, .iconst 2, .if_icmp .le 21, .jsr 18]
def b82_18 : List Instr := [.iconst (-2), .ireturn]
def b82_21 : List Instr := [.aload 0, .getfield 161, .iload 1, .aaload, .getfield 66, .ifCond .ne 36, .iconst (-3), .ireturn]
def b82_36 : List Instr := [.aload 0, .getfield 161, .iload 1, .aaload, .iload 2, .invokeinterface 106 2, .ireturn]
def bk82 : Nat → List Instr := fun pc => match pc with
  | 0 => b82_0
  | 9 => b82_9
  | 18 => b82_18
  | 21 => b82_21
  | 36 => b82_36
  | _ => []
/-- 83: FieldsByDots.grown(II)J -/
def b83_0 : List Instr := [.iload 1, .invokeinterface 98 1, .ifCond .ne 11, .goto_w (-1), .lreturn]
def b83_11 : List Instr := [.iload 2, .iconst 1, .if_icmp .lt 22, .iload 2, .iconst 99, .if_icmp .le 26, .jsr 22]
def b83_22 : List Instr := [.goto_w (-2), .lreturn]
def b83_26 : List Instr := [.aload 0, .getfield 161, .iload 1, .aaload, .invokeinterface 31 1, .ifCond .ne 42, .goto_w (-3), .lreturn]
def b83_42 : List Instr := [.aload 0, .getfield 161, .iload 1, .aaload, .invokeinterface 34 1, .fneg, .i2l, .iload 2, .i2l, .lmul, .iload 2, .i2l, .lmul, .lstore 3, .aload 0, .getfield 161, .iload 1, .aaload, .invokeinterface 37 1, .i2l, .iload 2, .i2l, .lmul, .lstore 5, .lload 3, .lload 5, .ladd, .goto_w 2, .ldiv, .goto_w 1, .ladd, .lreturn]
def bk83 : Nat → List Instr := fun pc => match pc with
  | 0 => b83_0
  | 11 => b83_11
  | 22 => b83_22
  | 26 => b83_26
  | 42 => b83_42
  | _ => []
/-- 84: FieldsByDots.hull(II)I -/
def b84_0 : List Instr := [.iload 1, .invokeinterface 98 1, .ifCond .eq 14, .iload 2, .invokeinterface 98 1, .ifCond .ne 16, .jsr 14]
def b84_14 : List Instr := [.iconst (-1), .ireturn]
def b84_16 : List Instr := [.aload 0, .getfield 161, .iload 2, .aaload, .invokeinterface 43 1, .ifCond .eq 31, .iconst (-3), .ireturn]
def b84_31 : List Instr := [.aload 0, .getfield 161, .iload 2, .aaload, .aload 0, .getfield 164, .invokeinterface 44 2, .aload 0, .getfield 161, .iload 1, .aaload, .aload 0, .getfield 164, .invokeinterface 18 2, .aload 0, .getfield 161, .iload 1, .aaload, .getfield 66, .ireturn]
def bk84 : Nat → List Instr := fun pc => match pc with
  | 0 => b84_0
  | 14 => b84_14
  | 16 => b84_16
  | 31 => b84_31
  | _ => []
/-- 85: FieldsByDots.sees(III)I -/
def b85_0 : List Instr := [.aload 0, .iload 1, .iload 2, .iload 3, .invokeinterface 102 4, .ifCond .eq 15, .iload 2, .iload 3, .if_icmp .ne 17, .jsr 15]
def b85_15 : List Instr := [.iconst (-1), .ireturn]
def b85_17 : List Instr := [.aload 0, .getfield 161, .iload 1, .aaload, .invokeinterface 31 1, .ifCond .ne 32, .iconst (-3), .ireturn]
def b85_32 : List Instr := [.aload 0, .getfield 161, .iload 1, .aaload, .iload 2, .iload 3, .invokeinterface 46 3, .ifCond .eq 50, .iconst 1, .goto 51]
def b85_50 : List Instr := [.iconst 0, .jsr 51]
def b85_51 : List Instr := [.ireturn]
def bk85 : Nat → List Instr := fun pc => match pc with
  | 0 => b85_0
  | 15 => b85_15
  | 17 => b85_17
  | 32 => b85_32
  | 50 => b85_50
  | 51 => b85_51
  | _ => []
/-- 86: FieldsByDots.strip(III)I -/
def b86_0 : List Instr := [.aload 0, .iload 1, .iload 2, .iload 3, .invokeinterface 102 4, .ifCond .eq 15, .iload 2, .iload 3, .if_icmp .ne 17, .jsr 15]
def b86_15 : List Instr := [.iconst (-1), .ireturn]
def b86_17 : List Instr := [.aload 0, .getfield 161, .iload 1, .aaload, .invokeinterface 31 1, .ifCond .ne 32, .iconst (-3), .ireturn]
def b86_32 : List Instr := [.aload 0, .getfield 161, .iload 1, .aaload, .iload 2, .iload 3, .invokeinterface 47 3, .ifCond .eq 50, .iconst 1, .goto 51]
def b86_50 : List Instr := [.iconst 0, .jsr 51]
def b86_51 : List Instr := [.ireturn]
def bk86 : Nat → List Instr := fun pc => match pc with
  | 0 => b86_0
  | 15 => b86_15
  | 17 => b86_17
  | 32 => b86_32
  | 50 => b86_50
  | 51 => b86_51
  | _ => []
/-- 87: FieldsByDots.least(II)I -/
def b87_0 : List Instr := [.iload 1, .invokeinterface 98 1, .ifCond .ne 9, .iconst (-1), .ireturn]
def b87_9 : List Instr := [.aload 0, .getfield 161, .iload 1, .aaload, .invokeinterface 31 1, .ifCond .ne 24, .iconst (-3), .ireturn]
def b87_24 : List Instr := [.aload 0, .getfield 165, .aload 0, .getfield 161, .iload 1, .aaload, .invokeinterface 53 2, .aload 0, .getfield 166, .aload 0, .getfield 161, .iload 1, .aaload, .aload 0, .getfield 165, .invokeinterface 1 3, .aload 0, .getfield 166, .iload 2, .invokeinterface 9 2, .ireturn]
def bk87 : Nat → List Instr := fun pc => match pc with
  | 0 => b87_0
  | 9 => b87_9
  | 24 => b87_24
  | _ => []
/-- 88: FieldsByDots.fair(I)I -/
def b88_0 : List Instr := [.iload 1, .invokeinterface 98 1, .ifCond .ne 9, .iconst (-1), .ireturn]
def b88_9 : List Instr := [.aload 0, .getfield 161, .iload 1, .aaload, .invokeinterface 31 1, .ifCond .ne 24, .iconst (-3), .ireturn]
def b88_24 : List Instr := [.aload 0, .getfield 165, .aload 0, .getfield 161, .iload 1, .aaload, .invokeinterface 53 2, .aload 0, .aload 0, .getfield 161, .iload 1, .aaload, .invokeinterface 107 2, .ireturn]
def bk88 : Nat → List Instr := fun pc => match pc with
  | 0 => b88_0
  | 9 => b88_9
  | 24 => b88_24
  | _ => []
/-- 89: FieldsByDots.sides(III)I -/
def b89_0 : List Instr := [.aload 0, .iload 1, .iload 2, .iload 3, .invokeinterface 102 4, .ifCond .ne 12, .iconst (-1), .ireturn]
def b89_12 : List Instr := [.aload 0, .getfield 161, .iload 1, .aaload, .invokeinterface 31 1, .ifCond .eq 38, .aload 0, .getfield 161, .iload 1, .aaload, .iload 2, .iload 3, .invokeinterface 47 3, .ifCond .ne 41, .jsr 38]
def b89_38 : List Instr := [.iconst (-3), .ireturn]
def b89_41 : List Instr := [.aload 0, .getfield 161, .iload 1, .aaload, .iload 2, .iload 3, .invokeinterface 36 3, .ireturn]
def bk89 : Nat → List Instr := fun pc => match pc with
  | 0 => b89_0
  | 12 => b89_12
  | 38 => b89_38
  | 41 => b89_41
  | _ => []
/-- 90: FieldsByDots.guards(I)I -/
def b90_0 : List Instr := [.iload 1, .invokeinterface 98 1, .ifCond .ne 9, .iconst (-1), .ireturn]
def b90_9 : List Instr := [.aload 0, .getfield 161, .iload 1, .aaload, .invokeinterface 31 1, .ifCond .ne 24, .iconst (-3), .ireturn]
def b90_24 : List Instr := [.aload 0, .getfield 165, .aload 0, .getfield 161, .iload 1, .aaload, .invokeinterface 53 2, .aload 0, .getfield 165, .invokeinterface 57 1, .ireturn]
def bk90 : Nat → List Instr := fun pc => match pc with
  | 0 => b90_0
  | 9 => b90_9
  | 24 => b90_24
  | _ => []
/-- 91: FieldsByDots.hops(III)I -/
def b91_0 : List Instr := [.aload 0, .iload 1, .iload 2, .iload 3, .invokeinterface 102 4, .ifCond .ne 12, .iconst (-1), .ireturn]
def b91_12 : List Instr := [.aload 0, .getfield 161, .iload 1, .aaload, .invokeinterface 31 1, .ifCond .ne 27, .iconst (-3), .ireturn]
def b91_27 : List Instr := [.aload 0, .getfield 165, .aload 0, .getfield 161, .iload 1, .aaload, .invokeinterface 53 2, .aload 0, .getfield 165, .iload 2, .iload 3, .invokeinterface 58 3, .ireturn]
def bk91 : Nat → List Instr := fun pc => match pc with
  | 0 => b91_0
  | 12 => b91_12
  | 27 => b91_27
  | _ => []
/-- 92: FieldsByDots.alike(II)I -/
def b92_0 : List Instr := [.aload 0, .iload 1, .iload 2, .invokeinterface 103 3, .istore 3, .iload 3, .ifCond .eq 13, .iload 3, .ireturn]
def b92_13 : List Instr := [.aload 0, .getfield 167, .aload 0, .getfield 161, .iload 1, .aaload, .aload 0, .getfield 161, .iload 2, .aaload, .iconst 1, .invokeinterface 11 4, .ifCond .ne 59, .aload 0, .getfield 167, .aload 0, .getfield 161, .iload 1, .aaload, .aload 0, .getfield 161, .iload 2, .aaload, .iconst (-1), .invokeinterface 11 4, .ifCond .eq 63, .jsr 59]
def b92_59 : List Instr := [.iconst 1, .goto 64]
def b92_63 : List Instr := [.iconst 0, .jsr 64]
def b92_64 : List Instr := [.istore 4, .iload 4, .ifCond .eq 75, .iconst 1, .goto 76]
def b92_75 : List Instr := [.iconst 0, .jsr 76]
def b92_76 : List Instr := [.ireturn]
def bk92 : Nat → List Instr := fun pc => match pc with
  | 0 => b92_0
  | 13 => b92_13
  | 59 => b92_59
  | 63 => b92_63
  | 64 => b92_64
  | 75 => b92_75
  | 76 => b92_76
  | _ => []
/-- 93: FieldsByDots.mirrored(II)I -/
def b93_0 : List Instr := [.aload 0, .iload 1, .iload 2, .invokeinterface 103 3, .istore 3, .iload 3, .ifCond .eq 13, .iload 3, .ireturn]
def b93_13 : List Instr := [.aload 0, .getfield 167, .aload 0, .getfield 161, .iload 1, .aaload, .aload 0, .getfield 161, .iload 2, .aaload, .iconst (-1), .invokeinterface 11 4, .ifCond .eq 40, .iconst 1, .goto 41]
def b93_40 : List Instr := [.iconst 0, .jsr 41]
def b93_41 : List Instr := [.ireturn]
def bk93 : Nat → List Instr := fun pc => match pc with
  | 0 => b93_0
  | 13 => b93_13
  | 40 => b93_40
  | 41 => b93_41
  | _ => []
/-- 94: FieldsByDots.common(II)I -/
def b94_0 : List Instr := [.aload 0, .iload 1, .iload 2, .invokeinterface 103 3, .istore 3, .iload 3, .ifCond .eq 13, .iload 3, .ireturn]
def b94_13 : List Instr := [.iconst 0, .istore 4, .iconst 0, .istore 5, .jsr 19]
def b94_19 : List Instr := [.iload 5, .iconst 15, .if_icmp .gt 93, .iconst 0, .istore 6, .jsr 29]
def b94_29 : List Instr := [.iload 6, .iconst 15, .if_icmp .gt 87, .aload 0, .getfield 161, .iload 1, .aaload, .iconst 2, .iload 5, .imul, .iconst 2, .iload 6, .imul, .invokeinterface 42 3, .iconst 2, .if_icmp .eq 81, .aload 0, .getfield 161, .iload 2, .aaload, .iconst 2, .iload 5, .imul, .iconst 2, .iload 6, .imul, .invokeinterface 42 3, .iconst 2, .if_icmp .eq 81, .iinc 4 1, .jsr 81]
def b94_81 : List Instr := [.iinc 6 1, .goto 29]
def b94_87 : List Instr := [.iinc 5 1, .goto 19]
def b94_93 : List Instr := [.iload 4, .ireturn]
def bk94 : Nat → List Instr := fun pc => match pc with
  | 0 => b94_0
  | 13 => b94_13
  | 19 => b94_19
  | 29 => b94_29
  | 81 => b94_81
  | 87 => b94_87
  | 93 => b94_93
  | _ => []
/-- 95: FieldsByDots.keep(I)I -/
def b95_0 : List Instr := [.iload 1, .ifCond .lt 9, .iload 1, .iconst 2, .if_icmp .lt 11, .jsr 9]
def b95_9 : List Instr := [.iconst (-1), .ireturn]
def b95_11 : List Instr := [.iconst 0, .istore 2, .jsr 13]
def b95_13 : List Instr := [.iload 2, .iconst 4, .if_icmp .ge 43, .aload 0, .getfield 162, .iload 1, .iconst 4, .imul, .iload 2, .iadd, .aaload, .aload 0, .getfield 161, .iload 2, .aaload, .invokeinterface 18 2, .iinc 2 1, .goto 13]
def b95_43 : List Instr := [.aload 0, .getfield 163, .iload 1, .iconst 1, .bastore, .aload 0, .invokeinterface 108 1, .ireturn]
def bk95 : Nat → List Instr := fun pc => match pc with
  | 0 => b95_0
  | 9 => b95_9
  | 11 => b95_11
  | 13 => b95_13
  | 43 => b95_43
  | _ => []
/-- 96: FieldsByDots.again(I)I -/
def b96_0 : List Instr := [.iload 1, .ifCond .lt 9, .iload 1, .iconst 2, .if_icmp .lt 11, .jsr 9]
def b96_9 : List Instr := [.iconst (-1), .ireturn]
def b96_11 : List Instr := [.aload 0, .getfield 163, .iload 1, .baload, .ifCond .ne 23, .iconst (-3), .ireturn]
def b96_23 : List Instr := [.iconst 0, .istore 2, .jsr 25]
def b96_25 : List Instr := [.iload 2, .iconst 4, .if_icmp .ge 55, .aload 0, .getfield 161, .iload 2, .aaload, .aload 0, .getfield 162, .iload 1, .iconst 4, .imul, .iload 2, .iadd, .aaload, .invokeinterface 18 2, .iinc 2 1, .goto 25]
def b96_55 : List Instr := [.aload 0, .invokeinterface 108 1, .ireturn]
def bk96 : Nat → List Instr := fun pc => match pc with
  | 0 => b96_0
  | 9 => b96_9
  | 11 => b96_11
  | 23 => b96_23
  | 25 => b96_25
  | 55 => b96_55
  | _ => []
/-- 97: FieldsByDots.count(I)I -/
def b97_0 : List Instr := [.iload 1, .tableswitch 46 0 2 #[28, 36, 41]]
def b97_28 : List Instr := [.aload 0, .getfield 160, .getfield 129, .ireturn]
def b97_36 : List Instr := [.aload 0, .invokeinterface 108 1, .ireturn]
def b97_41 : List Instr := [.aload 0, .invokeinterface 109 1, .ireturn]
def b97_46 : List Instr := [.iconst (-2), .ireturn]
def bk97 : Nat → List Instr := fun pc => match pc with
  | 0 => b97_0
  | 28 => b97_28
  | 36 => b97_36
  | 41 => b97_41
  | 46 => b97_46
  | _ => []
/-- 98: FieldsByDots.isField(I)Z -/
def b98_0 : List Instr := [.iload 0, .ifCond .lt 13, .iload 0, .iconst 4, .if_icmp .ge 13, .iconst 1, .goto 14]
def b98_13 : List Instr := [.iconst 0, .jsr 14]
def b98_14 : List Instr := [.freturn]
def bk98 : Nat → List Instr := fun pc => match pc with
  | 0 => b98_0
  | 13 => b98_13
  | 14 => b98_14
  | _ => []
/-- 99: FieldsByDots.isDot(II)Z -/
def b99_0 : List Instr := [.iload 0, .ifCond .lt 24, .iload 0, .iconst 15, .if_icmp .gt 24, .iload 1, .ifCond .lt 24, .iload 1, .iconst 15, .if_icmp .gt 24, .iconst 1, .goto 25]
def b99_24 : List Instr := [.iconst 0, .jsr 25]
def b99_25 : List Instr := [.freturn]
def bk99 : Nat → List Instr := fun pc => match pc with
  | 0 => b99_0
  | 24 => b99_24
  | 25 => b99_25
  | _ => []
/-- 100: FieldsByDots.isSlant(II)Z -/
def b100_0 : List Instr := [.iload 0, .iconst (-9), .if_icmp .lt 36, .iload 0, .iconst 9, .if_icmp .gt 36, .iload 1, .iconst (-9), .if_icmp .lt 36, .iload 1, .iconst 9, .if_icmp .gt 36, .iload 0, .ifCond .ne 32, .iload 1, .ifCond .eq 36, .jsr 32]
def b100_32 : List Instr := [.iconst 1, .goto 37]
def b100_36 : List Instr := [.iconst 0, .jsr 37]
def b100_37 : List Instr := [.freturn]
def bk100 : Nat → List Instr := fun pc => match pc with
  | 0 => b100_0
  | 32 => b100_32
  | 36 => b100_36
  | 37 => b100_37
  | _ => []
/-- 101: FieldsByDots.isCorner(II)Z -/
def b101_0 : List Instr := [.iload 1, .invokeinterface 98 1, .ifCond .eq 24, .aload 0, .getfield 161, .iload 1, .aaload, .iload 2, .invokeinterface 16 2, .ifCond .eq 24, .iconst 1, .goto 25]
def b101_24 : List Instr := [.iconst 0, .jsr 25]
def b101_25 : List Instr := [.freturn]
def bk101 : Nat → List Instr := fun pc => match pc with
  | 0 => b101_0
  | 24 => b101_24
  | 25 => b101_25
  | _ => []
/-- 102: FieldsByDots.isPair(III)Z -/
def b102_0 : List Instr := [.aload 0, .iload 1, .iload 2, .invokeinterface 101 3, .ifCond .eq 22, .aload 0, .iload 1, .iload 3, .invokeinterface 101 3, .ifCond .eq 22, .iconst 1, .goto 23]
def b102_22 : List Instr := [.iconst 0, .jsr 23]
def b102_23 : List Instr := [.freturn]
def bk102 : Nat → List Instr := fun pc => match pc with
  | 0 => b102_0
  | 22 => b102_22
  | 23 => b102_23
  | _ => []
/-- 103: FieldsByDots.refusalOfTwo(II)I -/
def b103_0 : List Instr := [.iload 1, .invokeinterface 98 1, .ifCond .eq 14, .iload 2, .invokeinterface 98 1, .ifCond .ne 16, .jsr 14]
def b103_14 : List Instr := [.iconst (-1), .ireturn]
def b103_16 : List Instr := [.aload 0, .getfield 161, .iload 1, .aaload, .invokeinterface 31 1, .ifCond .eq 44, .aload 0, .getfield 161, .iload 2, .aaload, .invokeinterface 31 1, .ifCond .eq 44, .iconst 0, .goto 46]
def b103_44 : List Instr := [.iconst (-3), .jsr 46]
def b103_46 : List Instr := [.ireturn]
def bk103 : Nat → List Instr := fun pc => match pc with
  | 0 => b103_0
  | 14 => b103_14
  | 16 => b103_16
  | 44 => b103_44
  | 46 => b103_46
  | _ => []
/-- 104: FieldsByDots.aboutShape(LFieldsByDots$Outline;I)I -/
def b104_0 : List Instr := [.iload 1, .tableswitch 73 0 4 #[36, 44, 57, 62, 67]]
def b104_36 : List Instr := [.aload 0, .invokeinterface 34 1, .fneg, .ireturn]
def b104_44 : List Instr := [.aload 0, .invokeinterface 34 1, .ifCond .le 55, .iconst 1, .goto 56]
def b104_55 : List Instr := [.iconst 0, .jsr 56]
def b104_56 : List Instr := [.ireturn]
def b104_57 : List Instr := [.aload 0, .invokeinterface 37 1, .ireturn]
def b104_62 : List Instr := [.aload 0, .invokeinterface 38 1, .ireturn]
def b104_67 : List Instr := [.aload 0, .iconst 2, .invokeinterface 40 2, .ireturn]
def b104_73 : List Instr := [.aload 0, .iconst 1, .invokeinterface 40 2, .ireturn]
def bk104 : Nat → List Instr := fun pc => match pc with
  | 0 => b104_0
  | 36 => b104_36
  | 44 => b104_44
  | 55 => b104_55
  | 56 => b104_56
  | 57 => b104_57
  | 62 => b104_62
  | 67 => b104_67
  | 73 => b104_73
  | _ => []
/-- 105: FieldsByDots.aboutCuts(LFieldsByDots$Outline;I)I -/
def b105_0 : List Instr := [.aload 0, .getfield 165, .aload 1, .invokeinterface 53 2, .iload 2, .iconst 6, .if_icmp .ne 22, .aload 0, .getfield 165, .invokeinterface 55 1, .ireturn]
def b105_22 : List Instr := [.aload 0, .getfield 166, .aload 1, .aload 0, .getfield 165, .invokeinterface 1 3, .iload 2, .iconst 7, .if_icmp .ne 50, .aload 0, .getfield 166, .invokeinterface 7 1, .goto 57]
def b105_50 : List Instr := [.aload 0, .getfield 166, .invokeinterface 8 1, .jsr 57]
def b105_57 : List Instr := [.ireturn]
def bk105 : Nat → List Instr := fun pc => match pc with
  | 0 => b105_0
  | 22 => b105_22
  | 50 => b105_50
  | 57 => b105_57
  | _ => []
/-- 106: FieldsByDots.narrowest(LFieldsByDots$Outline;I)I -/
def b106_0 : List Instr := [.aload 0, .iconst 0, .iconst (-1), .invokeinterface 41 3, .istore 2, .iconst 0, .istore 3, .iconst (-1), .istore 4, .iconst 1, .istore 5, .jsr 15]
def b106_15 : List Instr := [.iload 5, .iconst 9, .if_icmp .gt 87, .iconst (-9), .istore 6, .jsr 26]
def b106_26 : List Instr := [.iload 6, .iconst 9, .if_icmp .gt 81, .iload 5, .iload 6, .fneg, .invokeinterface 110 2, .iconst 1, .if_icmp .ne 75, .aload 0, .iload 5, .iload 6, .invokeinterface 41 3, .iload 2, .if_icmp .ge 75, .aload 0, .iload 5, .iload 6, .invokeinterface 41 3, .istore 2, .iload 5, .istore 3, .iload 6, .istore 4, .jsr 75]
def b106_75 : List Instr := [.iinc 6 1, .goto 26]
def b106_81 : List Instr := [.iinc 5 1, .goto 15]
def b106_87 : List Instr := [.iload 1, .ifCond .ne 93, .iload 2, .ireturn]
def b106_93 : List Instr := [.iload 1, .iconst 1, .if_icmp .ne 102, .iload 3, .goto 107]
def b106_102 : List Instr := [.iload 4, .iconst 100, .iadd, .jsr 107]
def b106_107 : List Instr := [.ireturn]
def bk106 : Nat → List Instr := fun pc => match pc with
  | 0 => b106_0
  | 15 => b106_15
  | 26 => b106_26
  | 75 => b106_75
  | 81 => b106_81
  | 87 => b106_87
  | 93 => b106_93
  | 102 => b106_102
  | 107 => b106_107
  | _ => []
/-- 107: FieldsByDots.fairest(LFieldsByDots$Outline;)I -/
def b107_0 : List Instr := [.iconst (-9), .istore 2, .iconst 0, .istore 3, .iconst 0, .istore 4, .jsr 8]
def b107_8 : List Instr := [.iload 4, .aload 1, .getfield 66, .if_icmp .ge 92, .iload 4, .iconst 1, .iadd, .istore 5, .jsr 23]
def b107_23 : List Instr := [.iload 5, .aload 1, .getfield 66, .if_icmp .ge 86, .aload 0, .getfield 165, .iload 4, .iload 5, .invokeinterface 54 3, .ifCond .eq 80, .aload 1, .iload 4, .iload 5, .invokeinterface 36 3, .istore 6, .iload 2, .iconst (-9), .if_icmp .eq 68, .iload 6, .iload 3, .if_icmp .ge 80, .jsr 68]
def b107_68 : List Instr := [.iconst 10, .iload 4, .imul, .iload 5, .iadd, .istore 2, .iload 6, .istore 3, .jsr 80]
def b107_80 : List Instr := [.iinc 5 1, .goto 23]
def b107_86 : List Instr := [.iinc 4 1, .goto 8]
def b107_92 : List Instr := [.iload 2, .ireturn]
def bk107 : Nat → List Instr := fun pc => match pc with
  | 0 => b107_0
  | 8 => b107_8
  | 23 => b107_23
  | 68 => b107_68
  | 80 => b107_80
  | 86 => b107_86
  | 92 => b107_92
  | _ => []
/-- 108: FieldsByDots.allCorners()I -/
def b108_0 : List Instr := [.iconst 0, .istore 1, .iconst 0, .istore 2, .jsr 4]
def b108_4 : List Instr := [.iload 2, .iconst 4, .if_icmp .ge 27, .iload 1, .aload 0, .getfield 161, .iload 2, .aaload, .getfield 66, .iadd, .istore 1, .iinc 2 1, .goto 4]
def b108_27 : List Instr := [.iload 1, .ireturn]
def bk108 : Nat → List Instr := fun pc => match pc with
  | 0 => b108_0
  | 4 => b108_4
  | 27 => b108_27
  | _ => []
/-- 109: FieldsByDots.soundFields()I -/
def b109_0 : List Instr := [.iconst 0, .istore 1, .iconst 0, .istore 2, .jsr 4]
def b109_4 : List Instr := [.iload 2, .iconst 4, .if_icmp .ge 30, .aload 0, .getfield 161, .iload 2, .aaload, .invokeinterface 31 1, .ifCond .eq 24, .iinc 1 1, .jsr 24]
def b109_24 : List Instr := [.iinc 2 1, .goto 4]
def b109_30 : List Instr := [.iload 1, .ireturn]
def bk109 : Nat → List Instr := fun pc => match pc with
  | 0 => b109_0
  | 4 => b109_4
  | 24 => b109_24
  | 30 => b109_30
  | _ => []
/-- 110: FieldsByDots.commonDivisor(II)I -/
def b110_0 : List Instr := [.iconst 15, .istore 2, .jsr 3]
def b110_3 : List Instr := [.iload 2, .iconst 1, .if_icmp .le 28, .iload 0, .iload 2, .irem, .ifCond .ne 22, .iload 1, .iload 2, .irem, .ifCond .ne 22, .iload 2, .ireturn]
def b110_22 : List Instr := [.iinc 2 (-1), .goto 3]
def b110_28 : List Instr := [.iconst 1, .ireturn]
def bk110 : Nat → List Instr := fun pc => match pc with
  | 0 => b110_0
  | 3 => b110_3
  | 22 => b110_22
  | 28 => b110_28
  | _ => []
/-- 111: FieldsByDotsModel.<init>()V -/
def b111_0 : List Instr := [.aload 0, .monitorenter, .aload 0, .iconst 24, .newarray .int, .putfield 192, .aload 0, .iconst 10, .newarray .int, .putfield 194, .aload 0, .iconst 10, .newarray .int, .putfield 195, .aload 0, .iconst 40, .newarray .int, .putfield 197, .aload 0, .iconst 40, .newarray .int, .putfield 198, .aload 0, .iconst 4, .newarray .int, .putfield 199, .aload 0, .iconst 10, .newarray .int, .putfield 200, .aload 0, .iconst 10, .newarray .int, .putfield 201, .aload 0, .iconst 32, .newarray .int, .putfield 202, .aload 0, .iconst 32, .newarray .int, .putfield 203, .aload 0, .iconst 100, .newarray .boolean, .putfield 205, .aload 0, .iconst 100, .newarray .boolean, .putfield 206, .aload 0, .iconst 100, .newarray .int, .putfield 207, .aload 0, .iconst 100, .newarray .int, .putfield 208, .aload 0, .iconst 10, .newarray .int, .putfield 209, .aload 0, .iconst 10, .newarray .int, .putfield 210, .aload 0, .iconst 2, .newarray .boolean, .putfield 216, .aload 0, .iconst 80, .newarray .int, .putfield 217, .aload 0, .iconst 80, .newarray .int, .putfield 218, .aload 0, .iconst 8, .newarray .int, .putfield 219, .aload 0, .iconst 0, .putfield 193, .return_]
def bk111 : Nat → List Instr := fun pc => match pc with
  | 0 => b111_0
  | _ => []
/-- 112: FieldsByDotsModel.in(JJJ)Z -/
def b112_0 : List Instr := [.lload 0, .lload 2, .lcmp, .ifCond .lt 17, .lload 0, .lload 4, .lcmp, .ifCond .gt 17, .iconst 1, .goto 18]
def b112_17 : List Instr := [.iconst 0, .jsr 18]
def b112_18 : List Instr := [.freturn]
def bk112 : Nat → List Instr := fun pc => match pc with
  | 0 => b112_0
  | 17 => b112_17
  | 18 => b112_18
  | _ => []
/-- 113: FieldsByDotsModel.write(IJ)I -/
def b113_0 : List Instr := [.iload 1, .i2l, .goto_w 1, .goto_w 8, .invokeinterface 112 3, .ifCond .ne 15, .iconst (-2), .ireturn]
def b113_15 : List Instr := [.aload 0, .getfield 193, .iload 1, .iadd, .iconst 24, .if_icmp .le 29, .iconst (-4), .ireturn]
def b113_29 : List Instr := [.iload 1, .iconst 1, .isub, .istore 4, .jsr 34]
def b113_34 : List Instr := [.iload 4, .ifCond .lt 76, .aload 0, .getfield 192, .aload 0, .getfield 193, .lload 2, .iconst 8, .iload 4, .imul, .lshr, .goto_w 255, .land, .l2i, .iastore, .aload 0, .dup, .getfield 193, .iconst 1, .iadd, .putfield 193, .iinc 4 (-1), .goto 34]
def b113_76 : List Instr := [.aload 0, .getfield 193, .ireturn]
def bk113 : Nat → List Instr := fun pc => match pc with
  | 0 => b113_0
  | 15 => b113_15
  | 29 => b113_29
  | 34 => b113_34
  | 76 => b113_76
  | _ => []
/-- 114: FieldsByDotsModel.wipe()I -/
def b114_0 : List Instr := [.aload 0, .getfield 193, .istore 1, .aload 0, .iconst 0, .putfield 193, .iload 1, .ireturn]
def bk114 : Nat → List Instr := fun pc => match pc with
  | 0 => b114_0
  | _ => []
/-- 115: FieldsByDotsModel.valueOf(I)I -/
def b115_0 : List Instr := [.iload 0, .i2l, .goto_w 48, .goto_w 57, .invokeinterface 112 3, .ifCond .eq 21, .iload 0, .iconst 48, .isub, .goto 43]
def b115_21 : List Instr := [.iload 0, .i2l, .goto_w 97, .goto_w 102, .invokeinterface 112 3, .ifCond .eq 42, .iload 0, .iconst 87, .isub, .goto 43]
def b115_42 : List Instr := [.iconst (-1), .jsr 43]
def b115_43 : List Instr := [.ireturn]
def bk115 : Nat → List Instr := fun pc => match pc with
  | 0 => b115_0
  | 21 => b115_21
  | 42 => b115_42
  | 43 => b115_43
  | _ => []
/-- 116: FieldsByDotsModel.isTold(II)Z -/
def b116_0 : List Instr := [.iconst 0, .istore 3, .iconst 0, .istore 4, .jsr 5]
def b116_5 : List Instr := [.iload 4, .aload 0, .getfield 196, .if_icmp .ge 52, .iload 3, .ifCond .ne 40, .aload 0, .getfield 194, .iload 4, .iaload, .iload 1, .if_icmp .ne 44, .aload 0, .getfield 195, .iload 4, .iaload, .iload 2, .if_icmp .ne 44, .jsr 40]
def b116_40 : List Instr := [.iconst 1, .goto 45]
def b116_44 : List Instr := [.iconst 0, .jsr 45]
def b116_45 : List Instr := [.istore 3, .iinc 4 1, .goto 5]
def b116_52 : List Instr := [.iload 3, .freturn]
def bk116 : Nat → List Instr := fun pc => match pc with
  | 0 => b116_0
  | 5 => b116_5
  | 40 => b116_40
  | 44 => b116_44
  | 45 => b116_45
  | 52 => b116_52
  | _ => []
/-- 117: FieldsByDotsModel.readText()I -/
def b117_0 : List Instr := [.aload 0, .iconst 0, .putfield 196, .iconst 0, .istore 1, .jsr 7]
def b117_7 : List Instr := [.iload 1, .aload 0, .getfield 193, .if_icmp .ge 119, .aload 0, .getfield 192, .iload 1, .iaload, .invokeinterface 115 1, .istore 2, .iload 2, .ifCond .lt 64, .aload 0, .getfield 196, .iconst 10, .if_icmp .eq 64, .iload 1, .iconst 2, .irem, .iconst 1, .if_icmp .ne 66, .aload 0, .aload 0, .getfield 192, .iload 1, .iconst 1, .isub, .iaload, .invokeinterface 115 1, .iload 2, .invokeinterface 116 3, .ifCond .eq 66, .jsr 64]
def b117_64 : List Instr := [.iload 1, .ireturn]
def b117_66 : List Instr := [.iload 1, .iconst 2, .irem, .iconst 1, .if_icmp .ne 113, .aload 0, .getfield 194, .aload 0, .getfield 196, .aload 0, .getfield 192, .iload 1, .iconst 1, .isub, .iaload, .invokeinterface 115 1, .iastore, .aload 0, .getfield 195, .aload 0, .getfield 196, .iload 2, .iastore, .aload 0, .dup, .getfield 196, .iconst 1, .iadd, .putfield 196, .jsr 113]
def b117_113 : List Instr := [.iinc 1 1, .goto 7]
def b117_119 : List Instr := [.aload 0, .getfield 193, .iconst 2, .irem, .iconst 1, .if_icmp .eq 137, .aload 0, .getfield 196, .iconst 3, .if_icmp .ge 144, .jsr 137]
def b117_137 : List Instr := [.aload 0, .getfield 193, .goto 146]
def b117_144 : List Instr := [.iconst (-9), .jsr 146]
def b117_146 : List Instr := [.ireturn]
def bk117 : Nat → List Instr := fun pc => match pc with
  | 0 => b117_0
  | 7 => b117_7
  | 64 => b117_64
  | 66 => b117_66
  | 113 => b117_113
  | 119 => b117_119
  | 137 => b117_137
  | 144 => b117_144
  | 146 => b117_146
  | _ => []
/-- 118: FieldsByDotsModel.fault()I -/
def b118_0 : List Instr := [.aload 0, .invokeinterface 117 1, .ireturn]
def bk118 : Nat → List Instr := fun pc => match pc with
  | 0 => b118_0
  | _ => []
/-- 119: FieldsByDotsModel.isField(I)Z -/
def b119_0 : List Instr := [.iload 0, .i2l, .goto_w 0, .goto_w 3, .invokeinterface 112 3, .freturn]
def bk119 : Nat → List Instr := fun pc => match pc with
  | 0 => b119_0
  | _ => []
/-- 120: FieldsByDotsModel.isCorner(II)Z -/
def b120_0 : List Instr := [.iload 1, .invokeinterface 119 1, .ifCond .eq 29, .iload 2, .i2l, .goto_w 0, .aload 0, .getfield 199, .iload 1, .iaload, .iconst 1, .isub, .i2l, .invokeinterface 112 3, .ifCond .eq 29, .iconst 1, .goto 30]
def b120_29 : List Instr := [.iconst 0, .jsr 30]
def b120_30 : List Instr := [.freturn]
def bk120 : Nat → List Instr := fun pc => match pc with
  | 0 => b120_0
  | 29 => b120_29
  | 30 => b120_30
  | _ => []
/-- 121: FieldsByDotsModel.isDot(II)Z -/
def b121_0 : List Instr := [.iload 0, .i2l, .goto_w 0, .goto_w 15, .invokeinterface 112 3, .ifCond .eq 28, .iload 1, .i2l, .goto_w 0, .goto_w 15, .invokeinterface 112 3, .ifCond .eq 28, .iconst 1, .goto 29]
def b121_28 : List Instr := [.iconst 0, .jsr 29]
def b121_29 : List Instr := [.freturn]
def bk121 : Nat → List Instr := fun pc => match pc with
  | 0 => b121_0
  | 28 => b121_28
  | 29 => b121_29
  | _ => []
/-- 122: FieldsByDotsModel.field(I)I -/
def b122_0 : List Instr := [.iload 1, .invokeinterface 119 1, .ifCond .ne 9, .iconst (-1), .ireturn]
def b122_9 : List Instr := [.aload 0, .invokeinterface 117 1, .iconst (-9), .if_icmp .eq 21, .iconst (-3), .ireturn]
def b122_21 : List Instr := [.aload 0, .getfield 199, .iload 1, .aload 0, .getfield 196, .iastore, .iconst 0, .istore 2, .jsr 33]
def b122_33 : List Instr := [.iload 2, .aload 0, .getfield 196, .if_icmp .ge 81, .aload 0, .getfield 197, .iconst 10, .iload 1, .imul, .iload 2, .iadd, .aload 0, .getfield 194, .iload 2, .iaload, .iastore, .aload 0, .getfield 198, .iconst 10, .iload 1, .imul, .iload 2, .iadd, .aload 0, .getfield 195, .iload 2, .iaload, .iastore, .iinc 2 1, .goto 33]
def b122_81 : List Instr := [.aload 0, .getfield 196, .ireturn]
def bk122 : Nat → List Instr := fun pc => match pc with
  | 0 => b122_0
  | 9 => b122_9
  | 21 => b122_21
  | 33 => b122_33
  | 81 => b122_81
  | _ => []
/-- 123: FieldsByDotsModel.corner(III)I -/
def b123_0 : List Instr := [.aload 0, .iload 1, .iload 2, .invokeinterface 120 3, .ifCond .ne 11, .iconst (-1), .ireturn]
def b123_11 : List Instr := [.iload 3, .ifCond .ne 29, .aload 0, .getfield 197, .iconst 10, .iload 1, .imul, .iload 2, .iadd, .iaload, .goto 50]
def b123_29 : List Instr := [.iload 3, .iconst 1, .if_icmp .ne 48, .aload 0, .getfield 198, .iconst 10, .iload 1, .imul, .iload 2, .iadd, .iaload, .goto 50]
def b123_48 : List Instr := [.iconst (-2), .jsr 50]
def b123_50 : List Instr := [.ireturn]
def bk123 : Nat → List Instr := fun pc => match pc with
  | 0 => b123_0
  | 11 => b123_11
  | 29 => b123_29
  | 48 => b123_48
  | 50 => b123_50
  | _ => []
/-- 124: FieldsByDotsModel.cornerAt(III)I -/
def b124_0 : List Instr := [.iconst 0, .istore 4, .jsr 3]
def b124_3 : List Instr := [.iload 4, .aload 0, .getfield 199, .iload 1, .iaload, .if_icmp .ge 55, .aload 0, .getfield 197, .iconst 10, .iload 1, .imul, .iload 4, .iadd, .iaload, .iload 2, .if_icmp .ne 49, .aload 0, .getfield 198, .iconst 10, .iload 1, .imul, .iload 4, .iadd, .iaload, .iload 3, .if_icmp .ne 49, .iload 4, .ireturn]
def b124_49 : List Instr := [.iinc 4 1, .goto 3]
def b124_55 : List Instr := [.iconst (-9), .ireturn]
def bk124 : Nat → List Instr := fun pc => match pc with
  | 0 => b124_0
  | 3 => b124_3
  | 49 => b124_49
  | 55 => b124_55
  | _ => []
/-- 125: FieldsByDotsModel.move(IIII)I -/
def b125_0 : List Instr := [.aload 0, .iload 1, .iload 2, .invokeinterface 120 3, .ifCond .ne 11, .iconst (-1), .ireturn]
def b125_11 : List Instr := [.iload 3, .iload 4, .invokeinterface 121 2, .ifCond .ne 23, .iconst (-2), .ireturn]
def b125_23 : List Instr := [.aload 0, .iload 1, .iload 3, .iload 4, .invokeinterface 124 4, .istore 5, .iload 5, .iconst (-9), .if_icmp .eq 49, .iload 5, .iload 2, .if_icmp .eq 49, .iconst (-3), .ireturn]
def b125_49 : List Instr := [.aload 0, .getfield 197, .iconst 10, .iload 1, .imul, .iload 2, .iadd, .iload 3, .iastore, .aload 0, .getfield 198, .iconst 10, .iload 1, .imul, .iload 2, .iadd, .iload 4, .iastore, .iload 5, .iload 2, .if_icmp .ne 84, .iconst 0, .goto 85]
def b125_84 : List Instr := [.iconst 1, .jsr 85]
def b125_85 : List Instr := [.ireturn]
def bk125 : Nat → List Instr := fun pc => match pc with
  | 0 => b125_0
  | 11 => b125_11
  | 23 => b125_23
  | 49 => b125_49
  | 84 => b125_84
  | 85 => b125_85
  | _ => []
/-- 126: FieldsByDotsModel.put(IIII)I -/
def b126_0 : List Instr := [.iload 1, .invokeinterface 119 1, .ifCond .eq 23, .iload 2, .i2l, .goto_w 0, .aload 0, .getfield 199, .iload 1, .iaload, .i2l, .invokeinterface 112 3, .ifCond .ne 25, .jsr 23]
def b126_23 : List Instr := [.iconst (-1), .ireturn]
def b126_25 : List Instr := [.iload 3, .iload 4, .invokeinterface 121 2, .ifCond .ne 37, .iconst (-2), .ireturn]
def b126_37 : List Instr := [.aload 0, .iload 1, .iload 3, .iload 4, .invokeinterface 124 4, .iconst (-9), .if_icmp .eq 53, .iconst (-3), .ireturn]
def b126_53 : List Instr := [.aload 0, .getfield 199, .iload 1, .iaload, .iconst 10, .if_icmp .ne 67, .iconst (-4), .ireturn]
def b126_67 : List Instr := [.aload 0, .getfield 199, .iload 1, .iaload, .istore 5, .jsr 75]
def b126_75 : List Instr := [.iload 5, .iload 2, .if_icmp .le 139, .aload 0, .getfield 197, .iconst 10, .iload 1, .imul, .iload 5, .iadd, .aload 0, .getfield 197, .iconst 10, .iload 1, .imul, .iload 5, .iadd, .iconst 1, .isub, .iaload, .iastore, .aload 0, .getfield 198, .iconst 10, .iload 1, .imul, .iload 5, .iadd, .aload 0, .getfield 198, .iconst 10, .iload 1, .imul, .iload 5, .iadd, .iconst 1, .isub, .iaload, .iastore, .iinc 5 (-1), .goto 75]
def b126_139 : List Instr := [.aload 0, .getfield 197, .iconst 10, .iload 1, .imul, .iload 2, .iadd, .iload 3, .iastore, .aload 0, .getfield 198, .iconst 10, .iload 1, .imul, .iload 2, .iadd, .iload 4, .iastore, .aload 0, .getfield 199, .iload 1, .dup2, .iaload, .iconst 1, .iadd, .iastore, .aload 0, .getfield 199, .iload 1, .iaload, .ireturn]
def bk126 : Nat → List Instr := fun pc => match pc with
  | 0 => b126_0
  | 23 => b126_23
  | 25 => b126_25
  | 37 => b126_37
  | 53 => b126_53
  | 67 => b126_67
  | 75 => b126_75
  | 139 => b126_139
  | _ => []
/-- 127: FieldsByDotsModel.take(II)I -/
def b127_0 : List Instr := [.aload 0, .iload 1, .iload 2, .invokeinterface 120 3, .ifCond .ne 11, .iconst (-1), .ireturn]
def b127_11 : List Instr := [.aload 0, .getfield 199, .iload 1, .iaload, .iconst 4, .if_icmp .ge 24, .iconst (-3), .ireturn]
def b127_24 : List Instr := [.aload 0, .getfield 199, .iload 1, .dup2, .iaload, .iconst 1, .isub, .iastore, .iload 2, .istore 3, .jsr 36]
def b127_36 : List Instr := [.iload 3, .aload 0, .getfield 199, .iload 1, .iaload, .if_icmp .ge 100, .aload 0, .getfield 197, .iconst 10, .iload 1, .imul, .iload 3, .iadd, .aload 0, .getfield 197, .iconst 10, .iload 1, .imul, .iload 3, .iadd, .iconst 1, .iadd, .iaload, .iastore, .aload 0, .getfield 198, .iconst 10, .iload 1, .imul, .iload 3, .iadd, .aload 0, .getfield 198, .iconst 10, .iload 1, .imul, .iload 3, .iadd, .iconst 1, .iadd, .iaload, .iastore, .iinc 3 1, .goto 36]
def b127_100 : List Instr := [.aload 0, .getfield 199, .iload 1, .iaload, .ireturn]
def bk127 : Nat → List Instr := fun pc => match pc with
  | 0 => b127_0
  | 11 => b127_11
  | 24 => b127_24
  | 36 => b127_36
  | 100 => b127_100
  | _ => []
/-- 128: FieldsByDotsModel.turn(II)I -/
def b128_0 : List Instr := [.iload 1, .invokeinterface 119 1, .ifCond .ne 9, .iconst (-1), .ireturn]
def b128_9 : List Instr := [.iload 2, .i2l, .goto_w 0, .goto_w 7, .invokeinterface 112 3, .ifCond .ne 24, .iconst (-2), .ireturn]
def b128_24 : List Instr := [.iconst 10, .iload 1, .imul, .istore 3, .jsr 29]
def b128_29 : List Instr := [.iload 3, .iconst 10, .iload 1, .imul, .aload 0, .getfield 199, .iload 1, .iaload, .iadd, .if_icmp .ge 127, .aload 0, .getfield 197, .iload 3, .iload 2, .iconst 3, .if_icmp .le 66, .iconst 15, .aload 0, .getfield 197, .iload 3, .iaload, .isub, .goto 72]
def b128_66 : List Instr := [.aload 0, .getfield 197, .iload 3, .iaload, .jsr 72]
def b128_72 : List Instr := [.iastore, .iconst 0, .istore 4, .jsr 76]
def b128_76 : List Instr := [.iload 4, .iload 2, .iconst 4, .irem, .if_icmp .ge 121, .aload 0, .getfield 197, .iload 3, .iaload, .istore 5, .aload 0, .getfield 197, .iload 3, .iconst 15, .aload 0, .getfield 198, .iload 3, .iaload, .isub, .iastore, .aload 0, .getfield 198, .iload 3, .iload 5, .iastore, .iinc 4 1, .goto 76]
def b128_121 : List Instr := [.iinc 3 1, .goto 29]
def b128_127 : List Instr := [.aload 0, .getfield 199, .iload 1, .iaload, .ireturn]
def bk128 : Nat → List Instr := fun pc => match pc with
  | 0 => b128_0
  | 9 => b128_9
  | 24 => b128_24
  | 29 => b128_29
  | 66 => b128_66
  | 72 => b128_72
  | 76 => b128_76
  | 121 => b128_121
  | 127 => b128_127
  | _ => []
/-- 129: FieldsByDotsModel.shift(III)I -/
def b129_0 : List Instr := [.iload 1, .invokeinterface 119 1, .ifCond .ne 9, .iconst (-1), .ireturn]
def b129_9 : List Instr := [.iload 2, .i2l, .goto_w (-15), .goto_w 15, .invokeinterface 112 3, .ifCond .eq 37, .iload 3, .i2l, .goto_w (-15), .goto_w 15, .invokeinterface 112 3, .ifCond .ne 40, .jsr 37]
def b129_37 : List Instr := [.iconst (-2), .ireturn]
def b129_40 : List Instr := [.iconst 10, .iload 1, .imul, .istore 4, .jsr 46]
def b129_46 : List Instr := [.iload 4, .iconst 10, .iload 1, .imul, .aload 0, .getfield 199, .iload 1, .iaload, .iadd, .if_icmp .ge 95, .aload 0, .getfield 197, .iload 4, .iaload, .iload 2, .iadd, .aload 0, .getfield 198, .iload 4, .iaload, .iload 3, .iadd, .invokeinterface 121 2, .ifCond .ne 89, .iconst (-3), .ireturn]
def b129_89 : List Instr := [.iinc 4 1, .goto 46]
def b129_95 : List Instr := [.iconst 10, .iload 1, .imul, .istore 4, .jsr 101]
def b129_101 : List Instr := [.iload 4, .iconst 10, .iload 1, .imul, .aload 0, .getfield 199, .iload 1, .iaload, .iadd, .if_icmp .ge 145, .aload 0, .getfield 197, .iload 4, .dup2, .iaload, .iload 2, .iadd, .iastore, .aload 0, .getfield 198, .iload 4, .dup2, .iaload, .iload 3, .iadd, .iastore, .iinc 4 1, .goto 101]
def b129_145 : List Instr := [.aload 0, .getfield 199, .iload 1, .iaload, .ireturn]
def bk129 : Nat → List Instr := fun pc => match pc with
  | 0 => b129_0
  | 9 => b129_9
  | 37 => b129_37
  | 40 => b129_40
  | 46 => b129_46
  | 89 => b129_89
  | 95 => b129_95
  | 101 => b129_101
  | 145 => b129_145
  | _ => []
/-- 130: FieldsByDotsModel.place(II)I -/
def b130_0 : List Instr := [.iconst 10, .iload 1, .imul, .iload 2, .aload 0, .getfield 199, .iload 1, .iaload, .irem, .aload 0, .getfield 199, .iload 1, .iaload, .iadd, .aload 0, .getfield 199, .iload 1, .iaload, .irem, .iadd, .ireturn]
def bk130 : Nat → List Instr := fun pc => match pc with
  | 0 => b130_0
  | _ => []
/-- 131: FieldsByDotsModel.side(III)I -/
def b131_0 : List Instr := [.aload 0, .getfield 197, .iload 2, .iaload, .aload 0, .getfield 197, .iload 1, .iaload, .isub, .aload 0, .getfield 198, .iload 3, .iaload, .aload 0, .getfield 198, .iload 1, .iaload, .isub, .imul, .aload 0, .getfield 198, .iload 2, .iaload, .aload 0, .getfield 198, .iload 1, .iaload, .isub, .aload 0, .getfield 197, .iload 3, .iaload, .aload 0, .getfield 197, .iload 1, .iaload, .isub, .imul, .isub, .ireturn]
def bk131 : Nat → List Instr := fun pc => match pc with
  | 0 => b131_0
  | _ => []
/-- 132: FieldsByDotsModel.isBetween(III)Z -/
def b132_0 : List Instr := [.aload 0, .getfield 197, .iload 3, .iaload, .aload 0, .getfield 197, .iload 1, .iaload, .isub, .aload 0, .getfield 197, .iload 3, .iaload, .aload 0, .getfield 197, .iload 2, .iaload, .isub, .imul, .ifCond .gt 64, .aload 0, .getfield 198, .iload 3, .iaload, .aload 0, .getfield 198, .iload 1, .iaload, .isub, .aload 0, .getfield 198, .iload 3, .iaload, .aload 0, .getfield 198, .iload 2, .iaload, .isub, .imul, .ifCond .gt 64, .iconst 1, .goto 65]
def b132_64 : List Instr := [.iconst 0, .jsr 65]
def b132_65 : List Instr := [.freturn]
def bk132 : Nat → List Instr := fun pc => match pc with
  | 0 => b132_0
  | 64 => b132_64
  | 65 => b132_65
  | _ => []
/-- 133: FieldsByDotsModel.meet(IIII)Z -/
def b133_0 : List Instr := [.aload 0, .iload 1, .iload 2, .iload 3, .invokeinterface 131 4, .invokeinterface 134 1, .istore 5, .aload 0, .iload 1, .iload 2, .iload 4, .invokeinterface 131 4, .invokeinterface 134 1, .istore 6, .aload 0, .iload 3, .iload 4, .iload 1, .invokeinterface 131 4, .invokeinterface 134 1, .istore 7, .aload 0, .iload 3, .iload 4, .iload 2, .invokeinterface 131 4, .invokeinterface 134 1, .istore 8, .iload 5, .ifCond .ne 66, .aload 0, .iload 1, .iload 2, .iload 3, .invokeinterface 132 4, .ifCond .ne 114, .jsr 66]
def b133_66 : List Instr := [.iload 6, .ifCond .ne 82, .aload 0, .iload 1, .iload 2, .iload 4, .invokeinterface 132 4, .ifCond .ne 114, .jsr 82]
def b133_82 : List Instr := [.iload 7, .ifCond .ne 98, .aload 0, .iload 3, .iload 4, .iload 1, .invokeinterface 132 4, .ifCond .ne 114, .jsr 98]
def b133_98 : List Instr := [.iload 8, .ifCond .ne 118, .aload 0, .iload 3, .iload 4, .iload 2, .invokeinterface 132 4, .ifCond .eq 118, .jsr 114]
def b133_114 : List Instr := [.iconst 1, .goto 119]
def b133_118 : List Instr := [.iconst 0, .jsr 119]
def b133_119 : List Instr := [.istore 9, .iload 9, .ifCond .ne 142, .iload 5, .iload 6, .imul, .ifCond .ge 146, .iload 7, .iload 8, .imul, .ifCond .ge 146, .jsr 142]
def b133_142 : List Instr := [.iconst 1, .goto 147]
def b133_146 : List Instr := [.iconst 0, .jsr 147]
def b133_147 : List Instr := [.freturn]
def bk133 : Nat → List Instr := fun pc => match pc with
  | 0 => b133_0
  | 66 => b133_66
  | 82 => b133_82
  | 98 => b133_98
  | 114 => b133_114
  | 118 => b133_118
  | 119 => b133_119
  | 142 => b133_142
  | 146 => b133_146
  | 147 => b133_147
  | _ => []
/-- 134: FieldsByDotsModel.sign(I)I -/
def b134_0 : List Instr := [.iload 0, .ifCond .ge 8, .iconst (-1), .goto 17]
def b134_8 : List Instr := [.iload 0, .ifCond .le 16, .iconst 1, .goto 17]
def b134_16 : List Instr := [.iconst 0, .jsr 17]
def b134_17 : List Instr := [.ireturn]
def bk134 : Nat → List Instr := fun pc => match pc with
  | 0 => b134_0
  | 8 => b134_8
  | 16 => b134_16
  | 17 => b134_17
  | _ => []
/-- 135: FieldsByDotsModel.isSound(I)Z -/
def b135_0 : List Instr := [.aload 0, .getfield 199, .iload 1, .iaload, .istore 2, .iload 2, .iconst 2, .if_icmp .le 16, .iconst 1, .goto 17]
def b135_16 : List Instr := [.iconst 0, .jsr 17]
def b135_17 : List Instr := [.istore 3, .iconst 0, .istore 4, .jsr 21]
def b135_21 : List Instr := [.iload 4, .iload 2, .if_icmp .ge 231, .iload 3, .ifCond .eq 231, .aload 0, .iload 1, .iload 4, .invokeinterface 130 3, .istore 5, .aload 0, .iload 1, .iload 4, .iconst 1, .iadd, .invokeinterface 130 3, .istore 6, .aload 0, .iload 1, .iload 4, .iconst 2, .iadd, .invokeinterface 130 3, .istore 7, .aload 0, .iload 5, .iload 6, .iload 7, .invokeinterface 131 4, .ifCond .ne 145, .aload 0, .getfield 197, .iload 5, .iaload, .aload 0, .getfield 197, .iload 6, .iaload, .isub, .aload 0, .getfield 197, .iload 7, .iaload, .aload 0, .getfield 197, .iload 6, .iaload, .isub, .imul, .aload 0, .getfield 198, .iload 5, .iaload, .aload 0, .getfield 198, .iload 6, .iaload, .isub, .aload 0, .getfield 198, .iload 7, .iaload, .aload 0, .getfield 198, .iload 6, .iaload, .isub, .imul, .iadd, .ifCond .le 145, .iconst 1, .goto 146]
def b135_145 : List Instr := [.iconst 0, .jsr 146]
def b135_146 : List Instr := [.istore 8, .iload 8, .ifCond .ne 157, .iconst 1, .goto 158]
def b135_157 : List Instr := [.iconst 0, .jsr 158]
def b135_158 : List Instr := [.istore 3, .iload 4, .iconst 2, .iadd, .istore 9, .jsr 165]
def b135_165 : List Instr := [.iload 9, .iload 2, .if_icmp .ge 225, .iload 3, .ifCond .eq 225, .iload 9, .iconst 1, .iadd, .iload 2, .irem, .iload 4, .if_icmp .eq 213, .aload 0, .iload 5, .iload 6, .aload 0, .iload 1, .iload 9, .invokeinterface 130 3, .aload 0, .iload 1, .iload 9, .iconst 1, .iadd, .invokeinterface 130 3, .invokeinterface 133 5, .ifCond .ne 217, .jsr 213]
def b135_213 : List Instr := [.iconst 1, .goto 218]
def b135_217 : List Instr := [.iconst 0, .jsr 218]
def b135_218 : List Instr := [.istore 3, .iinc 9 1, .goto 165]
def b135_225 : List Instr := [.iinc 4 1, .goto 21]
def b135_231 : List Instr := [.iload 3, .freturn]
def bk135 : Nat → List Instr := fun pc => match pc with
  | 0 => b135_0
  | 16 => b135_16
  | 17 => b135_17
  | 21 => b135_21
  | 145 => b135_145
  | 146 => b135_146
  | 157 => b135_157
  | 158 => b135_158
  | 165 => b135_165
  | 213 => b135_213
  | 217 => b135_217
  | 218 => b135_218
  | 225 => b135_225
  | 231 => b135_231
  | _ => []
/-- 136: FieldsByDotsModel.sound(I)I -/
def b136_0 : List Instr := [.iload 1, .invokeinterface 119 1, .ifCond .ne 9, .iconst (-1), .ireturn]
def b136_9 : List Instr := [.aload 0, .iload 1, .invokeinterface 135 2, .ifCond .eq 21, .iconst 1, .goto 22]
def b136_21 : List Instr := [.iconst 0, .jsr 22]
def b136_22 : List Instr := [.ireturn]
def bk136 : Nat → List Instr := fun pc => match pc with
  | 0 => b136_0
  | 9 => b136_9
  | 21 => b136_21
  | 22 => b136_22
  | _ => []
/-- 137: FieldsByDotsModel.areaOf(III)I -/
def b137_0 : List Instr := [.iconst 0, .istore 4, .iload 2, .iconst 1, .iadd, .istore 5, .jsr 8]
def b137_8 : List Instr := [.iload 5, .iload 3, .if_icmp .ge 51, .iload 4, .aload 0, .aload 0, .iload 1, .iload 2, .invokeinterface 130 3, .aload 0, .iload 1, .iload 5, .invokeinterface 130 3, .aload 0, .iload 1, .iload 5, .iconst 1, .iadd, .invokeinterface 130 3, .invokeinterface 131 4, .iadd, .istore 4, .iinc 5 1, .goto 8]
def b137_51 : List Instr := [.iload 4, .ireturn]
def bk137 : Nat → List Instr := fun pc => match pc with
  | 0 => b137_0
  | 8 => b137_8
  | 51 => b137_51
  | _ => []
/-- 138: FieldsByDotsModel.area(I)I -/
def b138_0 : List Instr := [.aload 0, .iload 1, .iconst 0, .aload 0, .getfield 199, .iload 1, .iaload, .iconst 1, .isub, .invokeinterface 137 4, .ireturn]
def bk138 : Nat → List Instr := fun pc => match pc with
  | 0 => b138_0
  | _ => []
/-- 139: FieldsByDotsModel.without(I)I -/
def b139_0 : List Instr := [.iload 0, .ifCond .ge 9, .iload 0, .ineg, .goto 10]
def b139_9 : List Instr := [.iload 0, .jsr 10]
def b139_10 : List Instr := [.ireturn]
def bk139 : Nat → List Instr := fun pc => match pc with
  | 0 => b139_0
  | 9 => b139_9
  | 10 => b139_10
  | _ => []
/-- 140: FieldsByDotsModel.divisor(II)I -/
def b140_0 : List Instr := [.iload 0, .invokeinterface 139 1, .istore 2, .iload 1, .invokeinterface 139 1, .istore 3, .jsr 10]
def b140_10 : List Instr := [.iload 3, .ifCond .eq 27, .iload 2, .iload 3, .irem, .istore 4, .iload 3, .istore 2, .iload 4, .istore 3, .goto 10]
def b140_27 : List Instr := [.iload 2, .ireturn]
def bk140 : Nat → List Instr := fun pc => match pc with
  | 0 => b140_0
  | 10 => b140_10
  | 27 => b140_27
  | _ => []
/-- 141: FieldsByDotsModel.fenceDots(I)I -/
def b141_0 : List Instr := [.iconst 0, .istore 2, .iconst 0, .istore 3, .jsr 4]
def b141_4 : List Instr := [.iload 3, .aload 0, .getfield 199, .iload 1, .iaload, .if_icmp .ge 74, .aload 0, .iload 1, .iload 3, .invokeinterface 130 3, .istore 4, .aload 0, .iload 1, .iload 3, .iconst 1, .iadd, .invokeinterface 130 3, .istore 5, .iload 2, .aload 0, .getfield 197, .iload 5, .iaload, .aload 0, .getfield 197, .iload 4, .iaload, .isub, .aload 0, .getfield 198, .iload 5, .iaload, .aload 0, .getfield 198, .iload 4, .iaload, .isub, .invokeinterface 140 2, .iadd, .istore 2, .iinc 3 1, .goto 4]
def b141_74 : List Instr := [.iload 2, .ireturn]
def bk141 : Nat → List Instr := fun pc => match pc with
  | 0 => b141_0
  | 4 => b141_4
  | 74 => b141_74
  | _ => []
/-- 142: FieldsByDotsModel.howOf(II)I -/
def b142_0 : List Instr := [.aload 0, .aload 0, .iload 1, .iload 2, .iconst 1, .isub, .invokeinterface 130 3, .aload 0, .iload 1, .iload 2, .invokeinterface 130 3, .aload 0, .iload 1, .iload 2, .iconst 1, .iadd, .invokeinterface 130 3, .invokeinterface 131 4, .istore 3, .aload 0, .iload 1, .invokeinterface 138 2, .ifCond .ge 40, .iload 3, .ineg, .goto 41]
def b142_40 : List Instr := [.iload 3, .jsr 41]
def b142_41 : List Instr := [.istore 3, .iload 3, .ifCond .le 50, .iconst 0, .goto 59]
def b142_50 : List Instr := [.iload 3, .ifCond .ne 58, .iconst 1, .goto 59]
def b142_58 : List Instr := [.iconst 2, .jsr 59]
def b142_59 : List Instr := [.ireturn]
def bk142 : Nat → List Instr := fun pc => match pc with
  | 0 => b142_0
  | 40 => b142_40
  | 41 => b142_41
  | 50 => b142_50
  | 58 => b142_58
  | 59 => b142_59
  | _ => []
/-- 143: FieldsByDotsModel.whereOf(IJJJ)I -/
def b143_0 : List Instr := [.iconst 0, .istore 8, .iconst 0, .istore 9, .jsr 6]
def b143_6 : List Instr := [.iload 9, .aload 0, .getfield 199, .iload 1, .iaload, .if_icmp .ge 241, .aload 0, .iload 1, .iload 9, .invokeinterface 130 3, .istore 10, .aload 0, .iload 1, .iload 9, .iconst 1, .iadd, .invokeinterface 130 3, .istore 11, .aload 0, .getfield 197, .iload 10, .iaload, .i2l, .lload 6, .lmul, .lstore 12, .aload 0, .getfield 198, .iload 10, .iaload, .i2l, .lload 6, .lmul, .lstore 14, .aload 0, .getfield 197, .iload 11, .iaload, .i2l, .lload 6, .lmul, .lstore 16, .aload 0, .getfield 198, .iload 11, .iaload, .i2l, .lload 6, .lmul, .lstore 18, .lload 16, .lload 12, .lsub, .lload 4, .lload 14, .lsub, .lmul, .lload 18, .lload 14, .lsub, .lload 2, .lload 12, .lsub, .lmul, .lsub, .lstore 20, .lload 20, .goto_w 0, .lcmp, .ifCond .ne 152, .lload 2, .lload 12, .lsub, .lload 2, .lload 16, .lsub, .lmul, .goto_w 0, .lcmp, .ifCond .gt 152, .lload 4, .lload 14, .lsub, .lload 4, .lload 18, .lsub, .lmul, .goto_w 0, .lcmp, .ifCond .gt 152, .iconst 0, .ireturn]
def b143_152 : List Instr := [.lload 14, .lload 4, .lcmp, .ifCond .gt 164, .iconst 1, .goto 165]
def b143_164 : List Instr := [.iconst 0, .jsr 165]
def b143_165 : List Instr := [.lload 18, .lload 4, .lcmp, .ifCond .gt 177, .iconst 1, .goto 178]
def b143_177 : List Instr := [.iconst 0, .jsr 178]
def b143_178 : List Instr := [.if_icmp .eq 185, .iconst 1, .goto 186]
def b143_185 : List Instr := [.iconst 0, .jsr 186]
def b143_186 : List Instr := [.istore 22, .iload 22, .ifCond .eq 231, .lload 18, .lload 14, .lcmp, .ifCond .le 211, .lload 20, .goto_w 0, .lcmp, .ifCond .le 231, .goto 218]
def b143_211 : List Instr := [.lload 20, .goto_w 0, .lcmp, .ifCond .ge 231, .jsr 218]
def b143_218 : List Instr := [.iload 8, .ifCond .ne 227, .iconst 1, .goto 233]
def b143_227 : List Instr := [.iconst 0, .goto 233]
def b143_231 : List Instr := [.iload 8, .jsr 233]
def b143_233 : List Instr := [.istore 8, .iinc 9 1, .goto 6]
def b143_241 : List Instr := [.iload 8, .ifCond .eq 250, .iconst 1, .goto 251]
def b143_250 : List Instr := [.iconst 2, .jsr 251]
def b143_251 : List Instr := [.ireturn]
def bk143 : Nat → List Instr := fun pc => match pc with
  | 0 => b143_0
  | 6 => b143_6
  | 152 => b143_152
  | 164 => b143_164
  | 165 => b143_165
  | 177 => b143_177
  | 178 => b143_178
  | 185 => b143_185
  | 186 => b143_186
  | 211 => b143_211
  | 218 => b143_218
  | 227 => b143_227
  | 231 => b143_231
  | 233 => b143_233
  | 241 => b143_241
  | 250 => b143_250
  | 251 => b143_251
  | _ => []
/-- 144: FieldsByDotsModel.where(III)I -/
def b144_0 : List Instr := [.iload 1, .invokeinterface 119 1, .ifCond .ne 9, .iconst (-1), .ireturn]
def b144_9 : List Instr := [.iload 2, .iload 3, .invokeinterface 121 2, .ifCond .ne 20, .iconst (-2), .ireturn]
def b144_20 : List Instr := [.aload 0, .iload 1, .invokeinterface 135 2, .ifCond .eq 41, .aload 0, .iload 1, .iload 2, .i2l, .iload 3, .i2l, .goto_w 1, .invokeinterface 143 5, .goto 43]
def b144_41 : List Instr := [.iconst (-3), .jsr 43]
def b144_43 : List Instr := [.ireturn]
def bk144 : Nat → List Instr := fun pc => match pc with
  | 0 => b144_0
  | 9 => b144_9
  | 20 => b144_20
  | 41 => b144_41
  | 43 => b144_43
  | _ => []
/-- 145: FieldsByDotsModel.how(II)I -/
def b145_0 : List Instr := [.aload 0, .iload 1, .iload 2, .invokeinterface 120 3, .ifCond .ne 11, .iconst (-1), .ireturn]
def b145_11 : List Instr := [.aload 0, .iload 1, .invokeinterface 135 2, .ifCond .eq 28, .aload 0, .iload 1, .iload 2, .invokeinterface 142 3, .goto 30]
def b145_28 : List Instr := [.iconst (-3), .jsr 30]
def b145_30 : List Instr := [.ireturn]
def bk145 : Nat → List Instr := fun pc => match pc with
  | 0 => b145_0
  | 11 => b145_11
  | 28 => b145_28
  | 30 => b145_30
  | _ => []
/-- 146: FieldsByDotsModel.widthOf(III)I -/
def b146_0 : List Instr := [.iconst 0, .istore 4, .iconst 0, .istore 5, .iconst 0, .istore 6, .jsr 9]
def b146_9 : List Instr := [.iload 6, .aload 0, .getfield 199, .iload 1, .iaload, .if_icmp .ge 99, .iload 2, .aload 0, .getfield 197, .iconst 10, .iload 1, .imul, .iload 6, .iadd, .iaload, .imul, .iload 3, .aload 0, .getfield 198, .iconst 10, .iload 1, .imul, .iload 6, .iadd, .iaload, .imul, .iadd, .istore 7, .iload 6, .ifCond .eq 63, .iload 7, .iload 4, .if_icmp .le 68, .jsr 63]
def b146_63 : List Instr := [.iload 7, .goto 70]
def b146_68 : List Instr := [.iload 4, .jsr 70]
def b146_70 : List Instr := [.istore 4, .iload 6, .ifCond .eq 84, .iload 7, .iload 5, .if_icmp .ge 89, .jsr 84]
def b146_84 : List Instr := [.iload 7, .goto 91]
def b146_89 : List Instr := [.iload 5, .jsr 91]
def b146_91 : List Instr := [.istore 5, .iinc 6 1, .goto 9]
def b146_99 : List Instr := [.iload 4, .iload 5, .isub, .ireturn]
def bk146 : Nat → List Instr := fun pc => match pc with
  | 0 => b146_0
  | 9 => b146_9
  | 63 => b146_63
  | 68 => b146_68
  | 70 => b146_70
  | 84 => b146_84
  | 89 => b146_89
  | 91 => b146_91
  | 99 => b146_99
  | _ => []
/-- 147: FieldsByDotsModel.wide(III)I -/
def b147_0 : List Instr := [.iload 1, .invokeinterface 119 1, .ifCond .ne 9, .iconst (-1), .ireturn]
def b147_9 : List Instr := [.iload 2, .i2l, .goto_w (-9), .goto_w 9, .invokeinterface 112 3, .ifCond .eq 45, .iload 3, .i2l, .goto_w (-9), .goto_w 9, .invokeinterface 112 3, .ifCond .eq 45, .iload 2, .ifCond .ne 48, .iload 3, .ifCond .ne 48, .jsr 45]
def b147_45 : List Instr := [.iconst (-2), .ireturn]
def b147_48 : List Instr := [.aload 0, .getfield 199, .iload 1, .iaload, .ifCond .ne 62, .iconst (-3), .goto 69]
def b147_62 : List Instr := [.aload 0, .iload 1, .iload 2, .iload 3, .invokeinterface 146 4, .jsr 69]
def b147_69 : List Instr := [.ireturn]
def bk147 : Nat → List Instr := fun pc => match pc with
  | 0 => b147_0
  | 9 => b147_9
  | 45 => b147_45
  | 48 => b147_48
  | 62 => b147_62
  | 69 => b147_69
  | _ => []
/-- 148: FieldsByDotsModel.narrow(II)I -/
def b148_0 : List Instr := [.iload 1, .invokeinterface 119 1, .ifCond .ne 9, .iconst (-1), .ireturn]
def b148_9 : List Instr := [.iload 2, .i2l, .goto_w 0, .goto_w 2, .invokeinterface 112 3, .ifCond .ne 24, .iconst (-2), .ireturn]
def b148_24 : List Instr := [.aload 0, .getfield 199, .iload 1, .iaload, .ifCond .ne 36, .iconst (-3), .ireturn]
def b148_36 : List Instr := [.iconst 1000000, .istore 3, .iconst 0, .istore 4, .iconst 0, .istore 5, .iconst 0, .istore 6, .jsr 48]
def b148_48 : List Instr := [.iload 6, .iconst 10, .if_icmp .ge 120, .iconst (-9), .istore 7, .jsr 59]
def b148_59 : List Instr := [.iload 7, .iconst 10, .if_icmp .ge 114, .iload 6, .iload 7, .invokeinterface 140 2, .iconst 1, .if_icmp .ne 108, .aload 0, .iload 1, .iload 6, .iload 7, .invokeinterface 146 4, .iload 3, .if_icmp .ge 108, .aload 0, .iload 1, .iload 6, .iload 7, .invokeinterface 146 4, .istore 3, .iload 6, .istore 4, .iload 7, .istore 5, .jsr 108]
def b148_108 : List Instr := [.iinc 7 1, .goto 59]
def b148_114 : List Instr := [.iinc 6 1, .goto 48]
def b148_120 : List Instr := [.iload 2, .ifCond .ne 128, .iload 3, .goto 143]
def b148_128 : List Instr := [.iload 2, .iconst 1, .if_icmp .ne 138, .iload 4, .goto 143]
def b148_138 : List Instr := [.iload 5, .iconst 100, .iadd, .jsr 143]
def b148_143 : List Instr := [.ireturn]
def bk148 : Nat → List Instr := fun pc => match pc with
  | 0 => b148_0
  | 9 => b148_9
  | 24 => b148_24
  | 36 => b148_36
  | 48 => b148_48
  | 59 => b148_59
  | 108 => b148_108
  | 114 => b148_114
  | 120 => b148_120
  | 128 => b148_128
  | 138 => b148_138
  | 143 => b148_143
  | _ => []
/-- 149: FieldsByDotsModel.grown(II)J -/
def b149_0 : List Instr := [.iload 1, .invokeinterface 119 1, .ifCond .ne 11, .goto_w (-1), .lreturn]
def b149_11 : List Instr := [.iload 2, .i2l, .goto_w 1, .goto_w 99, .invokeinterface 112 3, .ifCond .ne 27, .goto_w (-2), .lreturn]
def b149_27 : List Instr := [.aload 0, .iload 1, .invokeinterface 135 2, .ifCond .eq 71, .aload 0, .iload 1, .invokeinterface 138 2, .invokeinterface 139 1, .i2l, .iload 2, .i2l, .lmul, .iload 2, .i2l, .lmul, .aload 0, .iload 1, .invokeinterface 141 2, .i2l, .iload 2, .i2l, .lmul, .ladd, .goto_w 2, .ladd, .goto_w 2, .ldiv, .goto 74]
def b149_71 : List Instr := [.goto_w (-3), .jsr 74]
def b149_74 : List Instr := [.lreturn]
def bk149 : Nat → List Instr := fun pc => match pc with
  | 0 => b149_0
  | 11 => b149_11
  | 27 => b149_27
  | 71 => b149_71
  | 74 => b149_74
  | _ => []
/-- 150: FieldsByDotsModel.hull(II)I -/
def b150_0 : List Instr := [.iload 1, .invokeinterface 119 1, .ifCond .eq 14, .iload 2, .invokeinterface 119 1, .ifCond .ne 16, .jsr 14]
def b150_14 : List Instr := [.iconst (-1), .ireturn]
def b150_16 : List Instr := [.iconst 10, .iload 2, .imul, .istore 3, .iconst 1, .istore 4, .iconst 10, .iload 2, .imul, .istore 5, .jsr 30]
def b150_30 : List Instr := [.iload 5, .iconst 10, .iload 2, .imul, .aload 0, .getfield 199, .iload 2, .iaload, .iadd, .if_icmp .ge 148, .aload 0, .getfield 197, .iload 5, .iaload, .aload 0, .getfield 197, .iload 3, .iaload, .if_icmp .lt 94, .aload 0, .getfield 197, .iload 5, .iaload, .aload 0, .getfield 197, .iload 3, .iaload, .if_icmp .ne 99, .aload 0, .getfield 198, .iload 5, .iaload, .aload 0, .getfield 198, .iload 3, .iaload, .if_icmp .ge 99, .jsr 94]
def b150_94 : List Instr := [.iload 5, .goto 100]
def b150_99 : List Instr := [.iload 3, .jsr 100]
def b150_100 : List Instr := [.istore 3, .iload 4, .ifCond .eq 139, .aload 0, .getfield 199, .iload 2, .iaload, .iconst 2, .if_icmp .lt 135, .aload 0, .iconst 10, .iload 2, .imul, .iconst 10, .iload 2, .imul, .iconst 1, .iadd, .iload 5, .invokeinterface 131 4, .ifCond .ne 139, .jsr 135]
def b150_135 : List Instr := [.iconst 1, .goto 140]
def b150_139 : List Instr := [.iconst 0, .jsr 140]
def b150_140 : List Instr := [.istore 4, .iinc 5 1, .goto 30]
def b150_148 : List Instr := [.iload 4, .ifCond .eq 156, .iconst (-3), .ireturn]
def b150_156 : List Instr := [.iconst 0, .istore 5, .iload 3, .istore 6, .iconst 1, .istore 7, .jsr 165]
def b150_165 : List Instr := [.iload 7, .ifCond .eq 226, .aload 0, .getfield 200, .iload 5, .aload 0, .getfield 197, .iload 6, .iaload, .iastore, .aload 0, .getfield 201, .iload 5, .aload 0, .getfield 198, .iload 6, .iaload, .iastore, .iinc 5 1, .aload 0, .iload 2, .iload 6, .invokeinterface 151 3, .istore 6, .iload 6, .iload 3, .if_icmp .eq 220, .iconst 1, .goto 221]
def b150_220 : List Instr := [.iconst 0, .jsr 221]
def b150_221 : List Instr := [.istore 7, .goto 165]
def b150_226 : List Instr := [.aload 0, .getfield 199, .iload 1, .iload 5, .iastore, .iconst 0, .istore 8, .jsr 237]
def b150_237 : List Instr := [.iload 8, .iload 5, .if_icmp .ge 288, .aload 0, .getfield 197, .iconst 10, .iload 1, .imul, .iload 8, .iadd, .aload 0, .getfield 200, .iload 8, .iaload, .iastore, .aload 0, .getfield 198, .iconst 10, .iload 1, .imul, .iload 8, .iadd, .aload 0, .getfield 201, .iload 8, .iaload, .iastore, .iinc 8 1, .goto 237]
def b150_288 : List Instr := [.iload 5, .ireturn]
def bk150 : Nat → List Instr := fun pc => match pc with
  | 0 => b150_0
  | 14 => b150_14
  | 16 => b150_16
  | 30 => b150_30
  | 94 => b150_94
  | 99 => b150_99
  | 100 => b150_100
  | 135 => b150_135
  | 139 => b150_139
  | 140 => b150_140
  | 148 => b150_148
  | 156 => b150_156
  | 165 => b150_165
  | 220 => b150_220
  | 221 => b150_221
  | 226 => b150_226
  | 237 => b150_237
  | 288 => b150_288
  | _ => []
/-- 151: FieldsByDotsModel.nextHull(II)I -/
def b151_0 : List Instr := [.iload 2, .iconst 10, .iload 1, .imul, .if_icmp .ne 17, .iconst 10, .iload 1, .imul, .iconst 1, .iadd, .goto 21]
def b151_17 : List Instr := [.iconst 10, .iload 1, .imul, .jsr 21]
def b151_21 : List Instr := [.istore 3, .iconst 10, .iload 1, .imul, .istore 4, .jsr 28]
def b151_28 : List Instr := [.iload 4, .iconst 10, .iload 1, .imul, .aload 0, .getfield 199, .iload 1, .iaload, .iadd, .if_icmp .ge 115, .iload 4, .iload 2, .if_icmp .ne 54, .iconst 1, .goto 62]
def b151_54 : List Instr := [.aload 0, .iload 2, .iload 3, .iload 4, .invokeinterface 131 4, .jsr 62]
def b151_62 : List Instr := [.istore 5, .iload 5, .ifCond .ne 89, .aload 0, .iload 2, .iload 4, .invokeinterface 152 3, .aload 0, .iload 2, .iload 3, .invokeinterface 152 3, .if_icmp .le 89, .iconst 1, .goto 90]
def b151_89 : List Instr := [.iconst 0, .jsr 90]
def b151_90 : List Instr := [.istore 6, .iload 5, .ifCond .lt 102, .iload 6, .ifCond .eq 107, .jsr 102]
def b151_102 : List Instr := [.iload 4, .goto 108]
def b151_107 : List Instr := [.iload 3, .jsr 108]
def b151_108 : List Instr := [.istore 3, .iinc 4 1, .goto 28]
def b151_115 : List Instr := [.iload 3, .ireturn]
def bk151 : Nat → List Instr := fun pc => match pc with
  | 0 => b151_0
  | 17 => b151_17
  | 21 => b151_21
  | 28 => b151_28
  | 54 => b151_54
  | 62 => b151_62
  | 89 => b151_89
  | 90 => b151_90
  | 102 => b151_102
  | 107 => b151_107
  | 108 => b151_108
  | 115 => b151_115
  | _ => []
/-- 152: FieldsByDotsModel.long2(II)I -/
def b152_0 : List Instr := [.aload 0, .getfield 197, .iload 1, .iaload, .aload 0, .getfield 197, .iload 2, .iaload, .isub, .aload 0, .getfield 197, .iload 1, .iaload, .aload 0, .getfield 197, .iload 2, .iaload, .isub, .imul, .aload 0, .getfield 198, .iload 1, .iaload, .aload 0, .getfield 198, .iload 2, .iaload, .isub, .aload 0, .getfield 198, .iload 1, .iaload, .aload 0, .getfield 198, .iload 2, .iaload, .isub, .imul, .iadd, .ireturn]
def bk152 : Nat → List Instr := fun pc => match pc with
  | 0 => b152_0
  | _ => []
/-- 153: FieldsByDotsModel.addMeet(II)V -/
def b153_0 : List Instr := [.iload 1, .ifCond .lt 9, .iload 1, .iload 2, .if_icmp .le 10, .jsr 9]
def b153_9 : List Instr := [.return_]
def b153_10 : List Instr := [.aload 0, .getfield 204, .istore 3, .jsr 15]
def b153_15 : List Instr := [.iload 3, .ifCond .le 76, .aload 0, .getfield 202, .iload 3, .iconst 1, .isub, .iaload, .iload 2, .imul, .iload 1, .aload 0, .getfield 203, .iload 3, .iconst 1, .isub, .iaload, .imul, .if_icmp .le 76, .aload 0, .getfield 202, .iload 3, .aload 0, .getfield 202, .iload 3, .iconst 1, .isub, .iaload, .iastore, .aload 0, .getfield 203, .iload 3, .aload 0, .getfield 203, .iload 3, .iconst 1, .isub, .iaload, .iastore, .iinc 3 (-1), .goto 15]
def b153_76 : List Instr := [.aload 0, .getfield 202, .iload 3, .iload 1, .iastore, .aload 0, .getfield 203, .iload 3, .iload 2, .iastore, .aload 0, .dup, .getfield 204, .iconst 1, .iadd, .putfield 204, .return_]
def bk153 : Nat → List Instr := fun pc => match pc with
  | 0 => b153_0
  | 9 => b153_9
  | 10 => b153_10
  | 15 => b153_15
  | 76 => b153_76
  | _ => []
/-- 154: FieldsByDotsModel.layMeet(IIII)V -/
def b154_0 : List Instr := [.aload 0, .iload 3, .iload 4, .iload 1, .invokeinterface 131 4, .istore 5, .aload 0, .iload 3, .iload 4, .iload 2, .invokeinterface 131 4, .istore 6, .iload 5, .iload 6, .if_icmp .ne 68, .iload 5, .ifCond .ne 67, .aload 0, .aload 0, .iload 1, .iload 2, .iload 3, .invokeinterface 155 4, .aload 0, .iload 1, .iload 2, .invokeinterface 152 3, .invokeinterface 153 3, .aload 0, .aload 0, .iload 1, .iload 2, .iload 4, .invokeinterface 155 4, .aload 0, .iload 1, .iload 2, .invokeinterface 152 3, .invokeinterface 153 3, .jsr 67]
def b154_67 : List Instr := [.return_]
def b154_68 : List Instr := [.aload 0, .iload 1, .iload 2, .iload 3, .invokeinterface 131 4, .istore 7, .aload 0, .iload 1, .iload 2, .iload 4, .invokeinterface 131 4, .istore 8, .iload 7, .invokeinterface 134 1, .iload 8, .invokeinterface 134 1, .imul, .ifCond .gt 140, .aload 0, .iload 5, .iload 6, .if_icmp .ge 115, .iload 5, .ineg, .goto 117]
def b154_115 : List Instr := [.iload 5, .jsr 117]
def b154_117 : List Instr := [.iload 5, .iload 6, .if_icmp .ge 132, .iload 6, .iload 5, .isub, .goto 137]
def b154_132 : List Instr := [.iload 5, .iload 6, .isub, .jsr 137]
def b154_137 : List Instr := [.invokeinterface 153 3, .jsr 140]
def b154_140 : List Instr := [.return_]
def bk154 : Nat → List Instr := fun pc => match pc with
  | 0 => b154_0
  | 67 => b154_67
  | 68 => b154_68
  | 115 => b154_115
  | 117 => b154_117
  | 132 => b154_132
  | 137 => b154_137
  | 140 => b154_140
  | _ => []
/-- 155: FieldsByDotsModel.partOf(III)I -/
def b155_0 : List Instr := [.aload 0, .getfield 197, .iload 3, .iaload, .aload 0, .getfield 197, .iload 1, .iaload, .isub, .aload 0, .getfield 197, .iload 2, .iaload, .aload 0, .getfield 197, .iload 1, .iaload, .isub, .imul, .aload 0, .getfield 198, .iload 3, .iaload, .aload 0, .getfield 198, .iload 1, .iaload, .isub, .aload 0, .getfield 198, .iload 2, .iaload, .aload 0, .getfield 198, .iload 1, .iaload, .isub, .imul, .iadd, .ireturn]
def bk155 : Nat → List Instr := fun pc => match pc with
  | 0 => b155_0
  | _ => []
/-- 156: FieldsByDotsModel.isSight(III)Z -/
def b156_0 : List Instr := [.aload 0, .iload 1, .iload 2, .invokeinterface 130 3, .istore 4, .aload 0, .iload 1, .iload 3, .invokeinterface 130 3, .istore 5, .aload 0, .iconst 0, .putfield 204, .aload 0, .iconst 0, .iconst 1, .invokeinterface 153 3, .aload 0, .iconst 1, .iconst 1, .invokeinterface 153 3, .iconst 0, .istore 6, .jsr 36]
def b156_36 : List Instr := [.iload 6, .aload 0, .getfield 199, .iload 1, .iaload, .if_icmp .ge 77, .aload 0, .iload 4, .iload 5, .aload 0, .iload 1, .iload 6, .invokeinterface 130 3, .aload 0, .iload 1, .iload 6, .iconst 1, .iadd, .invokeinterface 130 3, .invokeinterface 154 5, .iinc 6 1, .goto 36]
def b156_77 : List Instr := [.iconst 1, .istore 6, .iconst 1, .istore 7, .jsr 83]
def b156_83 : List Instr := [.iload 7, .aload 0, .getfield 204, .if_icmp .ge 257, .iload 6, .ifCond .eq 257, .goto_w 2, .aload 0, .getfield 203, .iload 7, .iconst 1, .isub, .iaload, .i2l, .lmul, .aload 0, .getfield 203, .iload 7, .iaload, .i2l, .lmul, .lstore 8, .aload 0, .getfield 202, .iload 7, .iconst 1, .isub, .iaload, .i2l, .aload 0, .getfield 203, .iload 7, .iaload, .i2l, .lmul, .aload 0, .getfield 202, .iload 7, .iaload, .i2l, .aload 0, .getfield 203, .iload 7, .iconst 1, .isub, .iaload, .i2l, .lmul, .ladd, .lstore 10, .aload 0, .getfield 197, .iload 4, .iaload, .i2l, .lload 8, .lmul, .aload 0, .getfield 197, .iload 5, .iaload, .aload 0, .getfield 197, .iload 4, .iaload, .isub, .i2l, .lload 10, .lmul, .ladd, .lstore 12, .aload 0, .getfield 198, .iload 4, .iaload, .i2l, .lload 8, .lmul, .aload 0, .getfield 198, .iload 5, .iaload, .aload 0, .getfield 198, .iload 4, .iaload, .isub, .i2l, .lload 10, .lmul, .ladd, .lstore 14, .aload 0, .iload 1, .lload 12, .lload 14, .lload 8, .invokeinterface 143 5, .iconst 2, .if_icmp .ge 248, .iconst 1, .goto 249]
def b156_248 : List Instr := [.iconst 0, .jsr 249]
def b156_249 : List Instr := [.istore 6, .iinc 7 1, .goto 83]
def b156_257 : List Instr := [.iload 6, .freturn]
def bk156 : Nat → List Instr := fun pc => match pc with
  | 0 => b156_0
  | 36 => b156_36
  | 77 => b156_77
  | 83 => b156_83
  | 248 => b156_248
  | 249 => b156_249
  | 257 => b156_257
  | _ => []
/-- 157: FieldsByDotsModel.isStrip(III)Z -/
def b157_0 : List Instr := [.aload 0, .getfield 199, .iload 1, .iaload, .istore 4, .iload 2, .iload 3, .if_icmp .eq 33, .iload 2, .iconst 1, .iadd, .iload 4, .irem, .iload 3, .if_icmp .eq 33, .iload 3, .iconst 1, .iadd, .iload 4, .irem, .iload 2, .if_icmp .ne 35, .jsr 33]
def b157_33 : List Instr := [.iconst 0, .freturn]
def b157_35 : List Instr := [.aload 0, .iload 1, .iload 2, .invokeinterface 130 3, .istore 5, .aload 0, .iload 1, .iload 3, .invokeinterface 130 3, .istore 6, .iconst 1, .istore 7, .iconst 0, .istore 8, .jsr 57]
def b157_57 : List Instr := [.iload 8, .iload 4, .if_icmp .ge 180, .iload 7, .ifCond .eq 180, .aload 0, .iload 1, .iload 8, .invokeinterface 130 3, .istore 9, .aload 0, .iload 1, .iload 8, .iconst 1, .iadd, .invokeinterface 130 3, .istore 10, .iload 9, .iload 5, .if_icmp .eq 117, .iload 10, .iload 5, .if_icmp .eq 117, .iload 9, .iload 6, .if_icmp .eq 117, .iload 10, .iload 6, .if_icmp .ne 121, .jsr 117]
def b157_117 : List Instr := [.iconst 1, .goto 122]
def b157_121 : List Instr := [.iconst 0, .jsr 122]
def b157_122 : List Instr := [.istore 11, .iload 11, .ifCond .eq 152, .aload 0, .iload 5, .iload 6, .iload 9, .iload 10, .invokeinterface 158 5, .ifCond .ne 148, .iconst 1, .goto 172]
def b157_148 : List Instr := [.iconst 0, .goto 172]
def b157_152 : List Instr := [.aload 0, .iload 5, .iload 6, .iload 9, .iload 10, .invokeinterface 133 5, .ifCond .ne 171, .iconst 1, .goto 172]
def b157_171 : List Instr := [.iconst 0, .jsr 172]
def b157_172 : List Instr := [.istore 7, .iinc 8 1, .goto 57]
def b157_180 : List Instr := [.iload 7, .ifCond .eq 233, .aload 0, .iload 1, .aload 0, .getfield 197, .iload 5, .iaload, .aload 0, .getfield 197, .iload 6, .iaload, .iadd, .i2l, .aload 0, .getfield 198, .iload 5, .iaload, .aload 0, .getfield 198, .iload 6, .iaload, .iadd, .i2l, .goto_w 2, .invokeinterface 143 5, .iconst 1, .if_icmp .ne 233, .iconst 1, .goto 234]
def b157_233 : List Instr := [.iconst 0, .jsr 234]
def b157_234 : List Instr := [.freturn]
def bk157 : Nat → List Instr := fun pc => match pc with
  | 0 => b157_0
  | 33 => b157_33
  | 35 => b157_35
  | 57 => b157_57
  | 117 => b157_117
  | 121 => b157_121
  | 122 => b157_122
  | 148 => b157_148
  | 152 => b157_152
  | 171 => b157_171
  | 172 => b157_172
  | 180 => b157_180
  | 233 => b157_233
  | 234 => b157_234
  | _ => []
/-- 158: FieldsByDotsModel.isAlong(IIII)Z -/
def b158_0 : List Instr := [.iload 3, .iload 1, .if_icmp .eq 11, .iload 4, .iload 1, .if_icmp .ne 15, .jsr 11]
def b158_11 : List Instr := [.iload 1, .goto 16]
def b158_15 : List Instr := [.iload 2, .jsr 16]
def b158_16 : List Instr := [.istore 5, .iload 5, .iload 1, .if_icmp .ne 28, .iload 2, .goto 29]
def b158_28 : List Instr := [.iload 1, .jsr 29]
def b158_29 : List Instr := [.istore 6, .iload 3, .iload 5, .if_icmp .ne 42, .iload 4, .goto 43]
def b158_42 : List Instr := [.iload 3, .jsr 43]
def b158_43 : List Instr := [.istore 7, .aload 0, .iload 5, .iload 6, .iload 7, .invokeinterface 131 4, .ifCond .ne 128, .aload 0, .getfield 197, .iload 6, .iaload, .aload 0, .getfield 197, .iload 5, .iaload, .isub, .aload 0, .getfield 197, .iload 7, .iaload, .aload 0, .getfield 197, .iload 5, .iaload, .isub, .imul, .aload 0, .getfield 198, .iload 6, .iaload, .aload 0, .getfield 198, .iload 5, .iaload, .isub, .aload 0, .getfield 198, .iload 7, .iaload, .aload 0, .getfield 198, .iload 5, .iaload, .isub, .imul, .iadd, .ifCond .le 128, .iconst 1, .goto 129]
def b158_128 : List Instr := [.iconst 0, .jsr 129]
def b158_129 : List Instr := [.freturn]
def bk158 : Nat → List Instr := fun pc => match pc with
  | 0 => b158_0
  | 11 => b158_11
  | 15 => b158_15
  | 16 => b158_16
  | 28 => b158_28
  | 29 => b158_29
  | 42 => b158_42
  | 43 => b158_43
  | 128 => b158_128
  | 129 => b158_129
  | _ => []
/-- 159: FieldsByDotsModel.areTwo(III)Z -/
def b159_0 : List Instr := [.aload 0, .iload 1, .iload 2, .invokeinterface 120 3, .ifCond .eq 22, .aload 0, .iload 1, .iload 3, .invokeinterface 120 3, .ifCond .eq 22, .iconst 1, .goto 23]
def b159_22 : List Instr := [.iconst 0, .jsr 23]
def b159_23 : List Instr := [.freturn]
def bk159 : Nat → List Instr := fun pc => match pc with
  | 0 => b159_0
  | 22 => b159_22
  | 23 => b159_23
  | _ => []
/-- 160: FieldsByDotsModel.sees(III)I -/
def b160_0 : List Instr := [.aload 0, .iload 1, .iload 2, .iload 3, .invokeinterface 159 4, .ifCond .eq 15, .iload 2, .iload 3, .if_icmp .ne 17, .jsr 15]
def b160_15 : List Instr := [.iconst (-1), .ireturn]
def b160_17 : List Instr := [.aload 0, .iload 1, .invokeinterface 135 2, .ifCond .ne 30, .iconst (-3), .goto 45]
def b160_30 : List Instr := [.aload 0, .iload 1, .iload 2, .iload 3, .invokeinterface 156 4, .ifCond .eq 44, .iconst 1, .goto 45]
def b160_44 : List Instr := [.iconst 0, .jsr 45]
def b160_45 : List Instr := [.ireturn]
def bk160 : Nat → List Instr := fun pc => match pc with
  | 0 => b160_0
  | 15 => b160_15
  | 17 => b160_17
  | 30 => b160_30
  | 44 => b160_44
  | 45 => b160_45
  | _ => []
/-- 161: FieldsByDotsModel.strip(III)I -/
def b161_0 : List Instr := [.aload 0, .iload 1, .iload 2, .iload 3, .invokeinterface 159 4, .ifCond .eq 15, .iload 2, .iload 3, .if_icmp .ne 17, .jsr 15]
def b161_15 : List Instr := [.iconst (-1), .ireturn]
def b161_17 : List Instr := [.aload 0, .iload 1, .invokeinterface 135 2, .ifCond .ne 30, .iconst (-3), .goto 45]
def b161_30 : List Instr := [.aload 0, .iload 1, .iload 2, .iload 3, .invokeinterface 157 4, .ifCond .eq 44, .iconst 1, .goto 45]
def b161_44 : List Instr := [.iconst 0, .jsr 45]
def b161_45 : List Instr := [.ireturn]
def bk161 : Nat → List Instr := fun pc => match pc with
  | 0 => b161_0
  | 15 => b161_15
  | 17 => b161_17
  | 30 => b161_30
  | 44 => b161_44
  | 45 => b161_45
  | _ => []
/-- 162: FieldsByDotsModel.layStrips(I)I -/
def b162_0 : List Instr := [.iconst 0, .istore 2, .iconst 0, .istore 3, .jsr 4]
def b162_4 : List Instr := [.iload 3, .iconst 100, .if_icmp .ge 98, .iload 3, .iconst 10, .idiv, .istore 4, .iload 3, .iconst 10, .irem, .istore 5, .aload 0, .getfield 205, .iload 3, .iload 4, .iload 5, .if_icmp .ge 61, .iload 5, .aload 0, .getfield 199, .iload 1, .iaload, .if_icmp .ge 61, .aload 0, .iload 1, .iload 4, .iload 5, .invokeinterface 157 4, .ifCond .eq 61, .iconst 1, .goto 62]
def b162_61 : List Instr := [.iconst 0, .jsr 62]
def b162_62 : List Instr := [.bastore, .aload 0, .getfield 206, .iload 3, .aload 0, .getfield 205, .iload 3, .baload, .bastore, .iload 2, .aload 0, .getfield 205, .iload 3, .baload, .ifCond .eq 89, .iconst 1, .goto 90]
def b162_89 : List Instr := [.iconst 0, .jsr 90]
def b162_90 : List Instr := [.iadd, .istore 2, .iinc 3 1, .goto 4]
def b162_98 : List Instr := [.iload 2, .ireturn]
def bk162 : Nat → List Instr := fun pc => match pc with
  | 0 => b162_0
  | 4 => b162_4
  | 61 => b162_61
  | 62 => b162_62
  | 89 => b162_89
  | 90 => b162_90
  | 98 => b162_98
  | _ => []
/-- 163: FieldsByDotsModel.layCuts(I)V -/
def b163_0 : List Instr := [.aload 0, .getfield 199, .iload 1, .iaload, .istore 2, .iconst 1, .istore 3, .jsr 9]
def b163_9 : List Instr := [.iload 3, .iload 2, .if_icmp .ge 297, .iconst 0, .istore 4, .jsr 17]
def b163_17 : List Instr := [.iload 4, .iload 3, .iadd, .iload 2, .if_icmp .ge 291, .iload 4, .iload 3, .iadd, .istore 5, .iload 3, .iconst 1, .if_icmp .eq 43, .iload 3, .iload 2, .iconst 1, .isub, .if_icmp .ne 47, .jsr 43]
def b163_43 : List Instr := [.iconst 1, .goto 48]
def b163_47 : List Instr := [.iconst 0, .jsr 48]
def b163_48 : List Instr := [.istore 6, .iload 6, .ifCond .eq 59, .iconst 0, .goto 77]
def b163_59 : List Instr := [.aload 0, .aload 0, .iload 1, .iload 4, .invokeinterface 130 3, .aload 0, .iload 1, .iload 5, .invokeinterface 130 3, .invokeinterface 152 3, .jsr 77]
def b163_77 : List Instr := [.istore 7, .iload 3, .iconst 1, .if_icmp .ne 88, .iconst 1, .goto 89]
def b163_88 : List Instr := [.iconst 0, .jsr 89]
def b163_89 : List Instr := [.istore 8, .iload 3, .iconst 1, .if_icmp .ne 100, .iconst 0, .goto 102]
def b163_100 : List Instr := [.iconst 1000000, .jsr 102]
def b163_102 : List Instr := [.istore 9, .iload 4, .iconst 1, .iadd, .istore 10, .jsr 110]
def b163_110 : List Instr := [.iload 10, .iload 5, .if_icmp .ge 203, .iload 8, .aload 0, .getfield 207, .iconst 10, .iload 4, .imul, .iload 10, .iadd, .iaload, .aload 0, .getfield 207, .iconst 10, .iload 10, .imul, .iload 5, .iadd, .iaload, .imul, .iadd, .istore 8, .aload 0, .getfield 208, .iconst 10, .iload 4, .imul, .iload 10, .iadd, .iaload, .aload 0, .getfield 208, .iconst 10, .iload 10, .imul, .iload 5, .iadd, .iaload, .iadd, .iload 7, .iadd, .istore 11, .iload 11, .iload 9, .if_icmp .ge 193, .iload 11, .goto 195]
def b163_193 : List Instr := [.iload 9, .jsr 195]
def b163_195 : List Instr := [.istore 9, .iinc 10 1, .goto 110]
def b163_203 : List Instr := [.iload 6, .ifCond .ne 224, .aload 0, .getfield 206, .iconst 10, .iload 4, .imul, .iload 5, .iadd, .baload, .ifCond .eq 228, .jsr 224]
def b163_224 : List Instr := [.iconst 1, .goto 229]
def b163_228 : List Instr := [.iconst 0, .jsr 229]
def b163_229 : List Instr := [.istore 10, .aload 0, .getfield 207, .iconst 10, .iload 4, .imul, .iload 5, .iadd, .iload 10, .ifCond .eq 253, .iload 8, .goto 254]
def b163_253 : List Instr := [.iconst 0, .jsr 254]
def b163_254 : List Instr := [.iastore, .aload 0, .getfield 208, .iconst 10, .iload 4, .imul, .iload 5, .iadd, .iload 10, .ifCond .eq 282, .iload 8, .ifCond .le 282, .iload 9, .goto 284]
def b163_282 : List Instr := [.iconst 1000000, .jsr 284]
def b163_284 : List Instr := [.iastore, .iinc 4 1, .goto 17]
def b163_291 : List Instr := [.iinc 3 1, .goto 9]
def b163_297 : List Instr := [.return_]
def bk163 : Nat → List Instr := fun pc => match pc with
  | 0 => b163_0
  | 9 => b163_9
  | 17 => b163_17
  | 43 => b163_43
  | 47 => b163_47
  | 48 => b163_48
  | 59 => b163_59
  | 77 => b163_77
  | 88 => b163_88
  | 89 => b163_89
  | 100 => b163_100
  | 102 => b163_102
  | 110 => b163_110
  | 193 => b163_193
  | 195 => b163_195
  | 203 => b163_203
  | 224 => b163_224
  | 228 => b163_228
  | 229 => b163_229
  | 253 => b163_253
  | 254 => b163_254
  | 282 => b163_282
  | 284 => b163_284
  | 291 => b163_291
  | 297 => b163_297
  | _ => []
/-- 164: FieldsByDotsModel.about(II)I -/
def b164_0 : List Instr := [.iload 1, .invokeinterface 119 1, .ifCond .ne 9, .iconst (-1), .ireturn]
def b164_9 : List Instr := [.iload 2, .i2l, .goto_w 0, .goto_w 8, .invokeinterface 112 3, .ifCond .ne 24, .iconst (-2), .ireturn]
def b164_24 : List Instr := [.aload 0, .iload 1, .invokeinterface 135 2, .ifCond .ne 35, .iconst (-3), .ireturn]
def b164_35 : List Instr := [.iconst 0, .istore 3, .iconst 0, .istore 4, .jsr 40]
def b164_40 : List Instr := [.iload 4, .aload 0, .getfield 199, .iload 1, .iaload, .if_icmp .ge 85, .iload 3, .aload 0, .iload 1, .iload 4, .invokeinterface 142 3, .iload 2, .iconst 4, .if_icmp .ne 68, .iconst 2, .goto 69]
def b164_68 : List Instr := [.iconst 1, .jsr 69]
def b164_69 : List Instr := [.if_icmp .ne 76, .iconst 1, .goto 77]
def b164_76 : List Instr := [.iconst 0, .jsr 77]
def b164_77 : List Instr := [.iadd, .istore 3, .iinc 4 1, .goto 40]
def b164_85 : List Instr := [.aload 0, .iload 1, .invokeinterface 162 2, .istore 4, .aload 0, .iload 1, .invokeinterface 163 2, .iload 2, .tableswitch 227 0 8 #[148, 157, 171, 177, 227, 227, 196, 199, 213]]
def b164_148 : List Instr := [.aload 0, .iload 1, .invokeinterface 138 2, .invokeinterface 139 1, .ireturn]
def b164_157 : List Instr := [.aload 0, .iload 1, .invokeinterface 138 2, .ifCond .le 169, .iconst 1, .goto 170]
def b164_169 : List Instr := [.iconst 0, .jsr 170]
def b164_170 : List Instr := [.ireturn]
def b164_171 : List Instr := [.aload 0, .iload 1, .invokeinterface 141 2, .ireturn]
def b164_177 : List Instr := [.aload 0, .iload 1, .invokeinterface 138 2, .invokeinterface 139 1, .aload 0, .iload 1, .invokeinterface 141 2, .isub, .iconst 2, .iadd, .iconst 2, .idiv, .ireturn]
def b164_196 : List Instr := [.iload 4, .ireturn]
def b164_199 : List Instr := [.aload 0, .getfield 207, .aload 0, .getfield 199, .iload 1, .iaload, .iconst 1, .isub, .iaload, .ireturn]
def b164_213 : List Instr := [.aload 0, .getfield 208, .aload 0, .getfield 199, .iload 1, .iaload, .iconst 1, .isub, .iaload, .ireturn]
def b164_227 : List Instr := [.iload 3, .ireturn]
def bk164 : Nat → List Instr := fun pc => match pc with
  | 0 => b164_0
  | 9 => b164_9
  | 24 => b164_24
  | 35 => b164_35
  | 40 => b164_40
  | 68 => b164_68
  | 69 => b164_69
  | 76 => b164_76
  | 77 => b164_77
  | 85 => b164_85
  | 148 => b164_148
  | 157 => b164_157
  | 169 => b164_169
  | 170 => b164_170
  | 171 => b164_171
  | 177 => b164_177
  | 196 => b164_196
  | 199 => b164_199
  | 213 => b164_213
  | 227 => b164_227
  | _ => []
/-- 165: FieldsByDotsModel.layLeast(I)I -/
def b165_0 : List Instr := [.aload 0, .iload 1, .invokeinterface 162 2, .pop, .aload 0, .iload 1, .invokeinterface 163 2, .aload 0, .getfield 199, .iload 1, .iaload, .istore 2, .aload 0, .getfield 208, .iload 2, .iconst 1, .isub, .iaload, .istore 3, .iconst 0, .istore 4, .iconst 0, .istore 5, .jsr 33]
def b165_33 : List Instr := [.iload 5, .iconst 100, .if_icmp .ge 203, .iload 4, .iload 2, .iconst 3, .isub, .if_icmp .ge 203, .aload 0, .getfield 206, .iload 5, .baload, .ifCond .eq 197, .iconst 0, .istore 6, .jsr 61]
def b165_61 : List Instr := [.iload 6, .iconst 100, .if_icmp .ge 120, .aload 0, .getfield 205, .iload 6, .aload 0, .getfield 206, .iload 6, .baload, .bastore, .aload 0, .getfield 206, .iload 6, .aload 0, .getfield 206, .iload 6, .baload, .ifCond .eq 112, .iload 5, .iload 6, .invokeinterface 166 2, .ifCond .ne 112, .iconst 1, .goto 113]
def b165_112 : List Instr := [.iconst 0, .jsr 113]
def b165_113 : List Instr := [.bastore, .iinc 6 1, .goto 61]
def b165_120 : List Instr := [.aload 0, .iload 1, .invokeinterface 163 2, .aload 0, .getfield 208, .iload 2, .iconst 1, .isub, .iaload, .iload 3, .if_icmp .ne 152, .aload 0, .getfield 209, .iload 4, .iload 5, .iastore, .iinc 4 1, .goto 197]
def b165_152 : List Instr := [.iconst 0, .istore 6, .jsr 155]
def b165_155 : List Instr := [.iload 6, .iconst 100, .if_icmp .ge 197, .aload 0, .getfield 206, .iload 6, .aload 0, .getfield 205, .iload 6, .baload, .ifCond .eq 189, .iload 6, .iload 5, .if_icmp .eq 189, .iconst 1, .goto 190]
def b165_189 : List Instr := [.iconst 0, .jsr 190]
def b165_190 : List Instr := [.bastore, .iinc 6 1, .goto 155]
def b165_197 : List Instr := [.iinc 5 1, .goto 33]
def b165_203 : List Instr := [.iload 4, .ireturn]
def bk165 : Nat → List Instr := fun pc => match pc with
  | 0 => b165_0
  | 33 => b165_33
  | 61 => b165_61
  | 112 => b165_112
  | 113 => b165_113
  | 120 => b165_120
  | 152 => b165_152
  | 155 => b165_155
  | 189 => b165_189
  | 190 => b165_190
  | 197 => b165_197
  | 203 => b165_203
  | _ => []
/-- 166: FieldsByDotsModel.cross(II)Z -/
def b166_0 : List Instr := [.iload 0, .iconst 10, .idiv, .istore 2, .iload 0, .iconst 10, .irem, .istore 3, .iload 1, .iconst 10, .idiv, .istore 4, .iload 1, .iconst 10, .irem, .istore 5, .iload 2, .iload 4, .if_icmp .ge 40, .iload 4, .iload 3, .if_icmp .ge 40, .iload 3, .iload 5, .if_icmp .lt 58, .jsr 40]
def b166_40 : List Instr := [.iload 4, .iload 2, .if_icmp .ge 62, .iload 2, .iload 5, .if_icmp .ge 62, .iload 5, .iload 3, .if_icmp .ge 62, .jsr 58]
def b166_58 : List Instr := [.iconst 1, .goto 63]
def b166_62 : List Instr := [.iconst 0, .jsr 63]
def b166_63 : List Instr := [.freturn]
def bk166 : Nat → List Instr := fun pc => match pc with
  | 0 => b166_0
  | 40 => b166_40
  | 58 => b166_58
  | 62 => b166_62
  | 63 => b166_63
  | _ => []
/-- 167: FieldsByDotsModel.least(II)I -/
def b167_0 : List Instr := [.iload 1, .invokeinterface 119 1, .ifCond .ne 9, .iconst (-1), .ireturn]
def b167_9 : List Instr := [.aload 0, .iload 1, .invokeinterface 135 2, .ifCond .ne 20, .iconst (-3), .ireturn]
def b167_20 : List Instr := [.aload 0, .iload 1, .invokeinterface 165 2, .istore 3, .iload 2, .i2l, .goto_w 0, .iload 3, .iconst 1, .isub, .i2l, .invokeinterface 112 3, .ifCond .eq 48, .aload 0, .getfield 209, .iload 2, .iaload, .goto 50]
def b167_48 : List Instr := [.iconst (-9), .jsr 50]
def b167_50 : List Instr := [.ireturn]
def bk167 : Nat → List Instr := fun pc => match pc with
  | 0 => b167_0
  | 9 => b167_9
  | 20 => b167_20
  | 48 => b167_48
  | 50 => b167_50
  | _ => []
/-- 168: FieldsByDotsModel.sidesOf(III)I -/
def b168_0 : List Instr := [.iload 2, .iload 3, .if_icmp .ge 15, .aload 0, .iload 1, .iload 2, .iload 3, .invokeinterface 137 4, .goto 22]
def b168_15 : List Instr := [.aload 0, .iload 1, .iload 3, .iload 2, .invokeinterface 137 4, .jsr 22]
def b168_22 : List Instr := [.istore 4, .aload 0, .iload 1, .invokeinterface 138 2, .iconst 2, .iload 4, .imul, .isub, .invokeinterface 139 1, .ireturn]
def bk168 : Nat → List Instr := fun pc => match pc with
  | 0 => b168_0
  | 15 => b168_15
  | 22 => b168_22
  | _ => []
/-- 169: FieldsByDotsModel.fair(I)I -/
def b169_0 : List Instr := [.iload 1, .invokeinterface 119 1, .ifCond .ne 9, .iconst (-1), .ireturn]
def b169_9 : List Instr := [.aload 0, .iload 1, .invokeinterface 135 2, .ifCond .ne 20, .iconst (-3), .ireturn]
def b169_20 : List Instr := [.aload 0, .iload 1, .invokeinterface 162 2, .pop, .iconst (-9), .istore 2, .iconst 1000000, .istore 3, .iconst 0, .istore 4, .jsr 35]
def b169_35 : List Instr := [.iload 4, .iconst 100, .if_icmp .ge 106, .aload 0, .getfield 205, .iload 4, .baload, .ifCond .eq 70, .aload 0, .iload 1, .iload 4, .iconst 10, .idiv, .iload 4, .iconst 10, .irem, .invokeinterface 168 4, .goto 72]
def b169_70 : List Instr := [.iconst 1000000, .jsr 72]
def b169_72 : List Instr := [.istore 5, .iload 5, .iload 3, .if_icmp .ge 85, .iload 4, .goto 86]
def b169_85 : List Instr := [.iload 2, .jsr 86]
def b169_86 : List Instr := [.istore 2, .iload 5, .iload 3, .if_icmp .ge 98, .iload 5, .goto 99]
def b169_98 : List Instr := [.iload 3, .jsr 99]
def b169_99 : List Instr := [.istore 3, .iinc 4 1, .goto 35]
def b169_106 : List Instr := [.iload 2, .ireturn]
def bk169 : Nat → List Instr := fun pc => match pc with
  | 0 => b169_0
  | 9 => b169_9
  | 20 => b169_20
  | 35 => b169_35
  | 70 => b169_70
  | 72 => b169_72
  | 85 => b169_85
  | 86 => b169_86
  | 98 => b169_98
  | 99 => b169_99
  | 106 => b169_106
  | _ => []
/-- 170: FieldsByDotsModel.sides(III)I -/
def b170_0 : List Instr := [.aload 0, .iload 1, .iload 2, .iload 3, .invokeinterface 159 4, .ifCond .ne 12, .iconst (-1), .ireturn]
def b170_12 : List Instr := [.aload 0, .iload 1, .invokeinterface 135 2, .ifCond .eq 40, .aload 0, .iload 1, .iload 2, .iload 3, .invokeinterface 157 4, .ifCond .eq 40, .aload 0, .iload 1, .iload 2, .iload 3, .invokeinterface 168 4, .goto 42]
def b170_40 : List Instr := [.iconst (-3), .jsr 42]
def b170_42 : List Instr := [.ireturn]
def bk170 : Nat → List Instr := fun pc => match pc with
  | 0 => b170_0
  | 12 => b170_12
  | 40 => b170_40
  | 42 => b170_42
  | _ => []
/-- 171: FieldsByDotsModel.laySeen(I)V -/
def b171_0 : List Instr := [.iconst 0, .istore 2, .jsr 2]
def b171_2 : List Instr := [.iload 2, .aload 0, .getfield 199, .iload 1, .iaload, .if_icmp .ge 76, .aload 0, .getfield 210, .iload 2, .iconst 1, .iload 2, .ishl, .iastore, .iconst 0, .istore 3, .jsr 23]
def b171_23 : List Instr := [.iload 3, .aload 0, .getfield 199, .iload 1, .iaload, .if_icmp .ge 70, .aload 0, .getfield 210, .iload 2, .dup2, .iaload, .iload 3, .iload 2, .if_icmp .eq 61, .aload 0, .iload 1, .iload 2, .iload 3, .invokeinterface 156 4, .ifCond .eq 61, .iconst 1, .iload 3, .ishl, .goto 62]
def b171_61 : List Instr := [.iconst 0, .jsr 62]
def b171_62 : List Instr := [.ior, .iastore, .iinc 3 1, .goto 23]
def b171_70 : List Instr := [.iinc 2 1, .goto 2]
def b171_76 : List Instr := [.return_]
def bk171 : Nat → List Instr := fun pc => match pc with
  | 0 => b171_0
  | 2 => b171_2
  | 23 => b171_23
  | 61 => b171_61
  | 62 => b171_62
  | 70 => b171_70
  | 76 => b171_76
  | _ => []
/-- 172: FieldsByDotsModel.ones(I)I -/
def b172_0 : List Instr := [.iconst 0, .istore 1, .iconst 0, .istore 2, .jsr 4]
def b172_4 : List Instr := [.iload 2, .iconst 10, .if_icmp .ge 24, .iload 1, .iload 0, .iload 2, .ishr, .iconst 1, .iand, .iadd, .istore 1, .iinc 2 1, .goto 4]
def b172_24 : List Instr := [.iload 1, .ireturn]
def bk172 : Nat → List Instr := fun pc => match pc with
  | 0 => b172_0
  | 4 => b172_4
  | 24 => b172_24
  | _ => []
/-- 173: FieldsByDotsModel.guards(I)I -/
def b173_0 : List Instr := [.iload 1, .invokeinterface 119 1, .ifCond .ne 9, .iconst (-1), .ireturn]
def b173_9 : List Instr := [.aload 0, .iload 1, .invokeinterface 135 2, .ifCond .ne 20, .iconst (-3), .ireturn]
def b173_20 : List Instr := [.aload 0, .iload 1, .invokeinterface 171 2, .iconst 1, .aload 0, .getfield 199, .iload 1, .iaload, .ishl, .iconst 1, .isub, .istore 2, .iload 2, .istore 3, .iload 2, .istore 4, .jsr 41]
def b173_41 : List Instr := [.iload 4, .ifCond .le 127, .iconst 0, .istore 5, .iconst 0, .istore 6, .jsr 52]
def b173_52 : List Instr := [.iload 6, .aload 0, .getfield 199, .iload 1, .iaload, .if_icmp .ge 96, .iload 5, .iload 4, .iload 6, .ishr, .iconst 1, .iand, .iconst 1, .if_icmp .ne 86, .aload 0, .getfield 210, .iload 6, .iaload, .goto 87]
def b173_86 : List Instr := [.iconst 0, .jsr 87]
def b173_87 : List Instr := [.ior, .istore 5, .iinc 6 1, .goto 52]
def b173_96 : List Instr := [.iload 5, .iload 2, .if_icmp .ne 119, .iload 4, .invokeinterface 172 1, .iload 3, .invokeinterface 172 1, .if_icmp .gt 119, .iload 4, .goto 120]
def b173_119 : List Instr := [.iload 3, .jsr 120]
def b173_120 : List Instr := [.istore 3, .iinc 4 (-1), .goto 41]
def b173_127 : List Instr := [.iload 3, .ireturn]
def bk173 : Nat → List Instr := fun pc => match pc with
  | 0 => b173_0
  | 9 => b173_9
  | 20 => b173_20
  | 41 => b173_41
  | 52 => b173_52
  | 86 => b173_86
  | 87 => b173_87
  | 96 => b173_96
  | 119 => b173_119
  | 120 => b173_120
  | 127 => b173_127
  | _ => []
/-- 174: FieldsByDotsModel.hops(III)I -/
def b174_0 : List Instr := [.aload 0, .iload 1, .iload 2, .iload 3, .invokeinterface 159 4, .ifCond .ne 12, .iconst (-1), .ireturn]
def b174_12 : List Instr := [.aload 0, .iload 1, .invokeinterface 135 2, .ifCond .ne 23, .iconst (-3), .ireturn]
def b174_23 : List Instr := [.aload 0, .iload 1, .invokeinterface 171 2, .iconst 1, .iload 2, .ishl, .istore 4, .iconst 0, .istore 5, .jsr 36]
def b174_36 : List Instr := [.iload 4, .iload 3, .ishr, .iconst 1, .iand, .ifCond .ne 106, .iload 4, .istore 6, .iconst 0, .istore 7, .jsr 52]
def b174_52 : List Instr := [.iload 7, .aload 0, .getfield 199, .iload 1, .iaload, .if_icmp .ge 96, .iload 6, .iload 4, .iload 7, .ishr, .iconst 1, .iand, .iconst 1, .if_icmp .ne 86, .aload 0, .getfield 210, .iload 7, .iaload, .goto 87]
def b174_86 : List Instr := [.iconst 0, .jsr 87]
def b174_87 : List Instr := [.ior, .istore 6, .iinc 7 1, .goto 52]
def b174_96 : List Instr := [.iload 6, .istore 4, .iinc 5 1, .goto 36]
def b174_106 : List Instr := [.iload 5, .ireturn]
def bk174 : Nat → List Instr := fun pc => match pc with
  | 0 => b174_0
  | 12 => b174_12
  | 23 => b174_23
  | 36 => b174_36
  | 52 => b174_52
  | 86 => b174_86
  | 87 => b174_87
  | 96 => b174_96
  | 106 => b174_106
  | _ => []
/-- 175: FieldsByDotsModel.isMap(IIIII)Z -/
def b175_0 : List Instr := [.iconst 2, .istore 6, .jsr 3]
def b175_3 : List Instr := [.aload 0, .aload 0, .iload 1, .iconst 0, .invokeinterface 130 3, .aload 0, .iload 1, .iconst 1, .invokeinterface 130 3, .aload 0, .iload 1, .iload 6, .invokeinterface 130 3, .invokeinterface 131 4, .ifCond .ne 35, .iinc 6 1, .goto 3]
def b175_35 : List Instr := [.aload 0, .iload 1, .iconst 0, .invokeinterface 130 3, .istore 7, .aload 0, .iload 1, .iconst 1, .invokeinterface 130 3, .istore 8, .aload 0, .iload 1, .iload 6, .invokeinterface 130 3, .istore 9, .aload 0, .iload 2, .iload 3, .invokeinterface 130 3, .istore 10, .aload 0, .iload 2, .iload 3, .iload 4, .iadd, .invokeinterface 130 3, .istore 11, .aload 0, .iload 2, .iload 3, .iload 4, .iload 6, .imul, .iadd, .invokeinterface 130 3, .istore 12, .aload 0, .aload 0, .iload 7, .iload 8, .iload 9, .invokeinterface 131 4, .putfield 215, .aload 0, .aload 0, .getfield 197, .iload 11, .iaload, .aload 0, .getfield 197, .iload 10, .iaload, .isub, .aload 0, .getfield 198, .iload 9, .iaload, .aload 0, .getfield 198, .iload 7, .iaload, .isub, .imul, .aload 0, .getfield 197, .iload 12, .iaload, .aload 0, .getfield 197, .iload 10, .iaload, .isub, .aload 0, .getfield 198, .iload 8, .iaload, .aload 0, .getfield 198, .iload 7, .iaload, .isub, .imul, .isub, .putfield 211, .aload 0, .aload 0, .getfield 197, .iload 12, .iaload, .aload 0, .getfield 197, .iload 10, .iaload, .isub, .aload 0, .getfield 197, .iload 8, .iaload, .aload 0, .getfield 197, .iload 7, .iaload, .isub, .imul, .aload 0, .getfield 197, .iload 11, .iaload, .aload 0, .getfield 197, .iload 10, .iaload, .isub, .aload 0, .getfield 197, .iload 9, .iaload, .aload 0, .getfield 197, .iload 7, .iaload, .isub, .imul, .isub, .putfield 212, .aload 0, .aload 0, .getfield 198, .iload 11, .iaload, .aload 0, .getfield 198, .iload 10, .iaload, .isub, .aload 0, .getfield 198, .iload 9, .iaload, .aload 0, .getfield 198, .iload 7, .iaload, .isub, .imul, .aload 0, .getfield 198, .iload 12, .iaload, .aload 0, .getfield 198, .iload 10, .iaload, .isub, .aload 0, .getfield 198, .iload 8, .iaload, .aload 0, .getfield 198, .iload 7, .iaload, .isub, .imul, .isub, .putfield 213, .aload 0, .aload 0, .getfield 198, .iload 12, .iaload, .aload 0, .getfield 198, .iload 10, .iaload, .isub, .aload 0, .getfield 197, .iload 8, .iaload, .aload 0, .getfield 197, .iload 7, .iaload, .isub, .imul, .aload 0, .getfield 198, .iload 11, .iaload, .aload 0, .getfield 198, .iload 10, .iaload, .isub, .aload 0, .getfield 197, .iload 9, .iaload, .aload 0, .getfield 197, .iload 7, .iaload, .isub, .imul, .isub, .putfield 214, .aload 0, .getfield 211, .aload 0, .getfield 215, .irem, .ifCond .ne 427, .aload 0, .getfield 212, .aload 0, .getfield 215, .irem, .ifCond .ne 427, .aload 0, .getfield 213, .aload 0, .getfield 215, .irem, .ifCond .ne 427, .aload 0, .getfield 214, .aload 0, .getfield 215, .irem, .ifCond .ne 427, .iconst 1, .goto 428]
def b175_427 : List Instr := [.iconst 0, .jsr 428]
def b175_428 : List Instr := [.istore 13, .iload 13, .ifCond .eq 483, .aload 0, .getfield 211, .aload 0, .getfield 215, .idiv, .aload 0, .getfield 214, .aload 0, .getfield 215, .idiv, .imul, .aload 0, .getfield 212, .aload 0, .getfield 215, .idiv, .aload 0, .getfield 213, .aload 0, .getfield 215, .idiv, .imul, .isub, .iload 5, .if_icmp .ne 483, .iconst 1, .goto 484]
def b175_483 : List Instr := [.iconst 0, .jsr 484]
def b175_484 : List Instr := [.istore 14, .iconst 0, .istore 15, .jsr 489]
def b175_489 : List Instr := [.iload 15, .aload 0, .getfield 199, .iload 1, .iaload, .if_icmp .ge 661, .iload 14, .ifCond .eq 661, .aload 0, .iload 1, .iload 15, .invokeinterface 130 3, .istore 16, .aload 0, .iload 2, .iload 3, .iload 4, .iload 15, .imul, .iadd, .invokeinterface 130 3, .istore 17, .aload 0, .getfield 197, .iload 16, .iaload, .aload 0, .getfield 197, .iload 7, .iaload, .isub, .istore 18, .aload 0, .getfield 198, .iload 16, .iaload, .aload 0, .getfield 198, .iload 7, .iaload, .isub, .istore 19, .aload 0, .getfield 211, .aload 0, .getfield 215, .idiv, .iload 18, .imul, .aload 0, .getfield 212, .aload 0, .getfield 215, .idiv, .iload 19, .imul, .iadd, .aload 0, .getfield 197, .iload 17, .iaload, .aload 0, .getfield 197, .iload 10, .iaload, .isub, .if_icmp .ne 652, .aload 0, .getfield 213, .aload 0, .getfield 215, .idiv, .iload 18, .imul, .aload 0, .getfield 214, .aload 0, .getfield 215, .idiv, .iload 19, .imul, .iadd, .aload 0, .getfield 198, .iload 17, .iaload, .aload 0, .getfield 198, .iload 10, .iaload, .isub, .if_icmp .ne 652, .iconst 1, .goto 653]
def b175_652 : List Instr := [.iconst 0, .jsr 653]
def b175_653 : List Instr := [.istore 14, .iinc 15 1, .goto 489]
def b175_661 : List Instr := [.iload 14, .freturn]
def bk175 : Nat → List Instr := fun pc => match pc with
  | 0 => b175_0
  | 3 => b175_3
  | 35 => b175_35
  | 427 => b175_427
  | 428 => b175_428
  | 483 => b175_483
  | 484 => b175_484
  | 489 => b175_489
  | 652 => b175_652
  | 653 => b175_653
  | 661 => b175_661
  | _ => []
/-- 176: FieldsByDotsModel.isLike(III)Z -/
def b176_0 : List Instr := [.iconst 0, .istore 4, .iconst 0, .istore 5, .jsr 6]
def b176_6 : List Instr := [.iload 5, .aload 0, .getfield 199, .iload 2, .iaload, .if_icmp .ge 76, .aload 0, .getfield 199, .iload 1, .iaload, .aload 0, .getfield 199, .iload 2, .iaload, .if_icmp .ne 76, .iload 4, .ifCond .ne 76, .aload 0, .iload 1, .iload 2, .iload 5, .iconst 1, .iload 3, .invokeinterface 175 6, .ifCond .ne 63, .aload 0, .iload 1, .iload 2, .iload 5, .iconst (-1), .iload 3, .invokeinterface 175 6, .ifCond .eq 67, .jsr 63]
def b176_63 : List Instr := [.iconst 1, .goto 68]
def b176_67 : List Instr := [.iconst 0, .jsr 68]
def b176_68 : List Instr := [.istore 4, .iinc 5 1, .goto 6]
def b176_76 : List Instr := [.iload 4, .freturn]
def bk176 : Nat → List Instr := fun pc => match pc with
  | 0 => b176_0
  | 6 => b176_6
  | 63 => b176_63
  | 67 => b176_67
  | 68 => b176_68
  | 76 => b176_76
  | _ => []
/-- 177: FieldsByDotsModel.alike(II)I -/
def b177_0 : List Instr := [.iload 1, .invokeinterface 119 1, .ifCond .eq 14, .iload 2, .invokeinterface 119 1, .ifCond .ne 16, .jsr 14]
def b177_14 : List Instr := [.iconst (-1), .ireturn]
def b177_16 : List Instr := [.aload 0, .iload 1, .invokeinterface 135 2, .ifCond .eq 32, .aload 0, .iload 2, .invokeinterface 135 2, .ifCond .ne 35, .jsr 32]
def b177_32 : List Instr := [.iconst (-3), .ireturn]
def b177_35 : List Instr := [.aload 0, .iload 1, .iload 2, .iconst 1, .invokeinterface 176 4, .ifCond .ne 55, .aload 0, .iload 1, .iload 2, .iconst (-1), .invokeinterface 176 4, .ifCond .eq 59, .jsr 55]
def b177_55 : List Instr := [.iconst 1, .goto 60]
def b177_59 : List Instr := [.iconst 0, .jsr 60]
def b177_60 : List Instr := [.ireturn]
def bk177 : Nat → List Instr := fun pc => match pc with
  | 0 => b177_0
  | 14 => b177_14
  | 16 => b177_16
  | 32 => b177_32
  | 35 => b177_35
  | 55 => b177_55
  | 59 => b177_59
  | 60 => b177_60
  | _ => []
/-- 178: FieldsByDotsModel.mirrored(II)I -/
def b178_0 : List Instr := [.iload 1, .invokeinterface 119 1, .ifCond .eq 14, .iload 2, .invokeinterface 119 1, .ifCond .ne 16, .jsr 14]
def b178_14 : List Instr := [.iconst (-1), .ireturn]
def b178_16 : List Instr := [.aload 0, .iload 1, .invokeinterface 135 2, .ifCond .eq 32, .aload 0, .iload 2, .invokeinterface 135 2, .ifCond .ne 35, .jsr 32]
def b178_32 : List Instr := [.iconst (-3), .ireturn]
def b178_35 : List Instr := [.aload 0, .iload 1, .iload 2, .iconst (-1), .invokeinterface 176 4, .ifCond .eq 49, .iconst 1, .goto 50]
def b178_49 : List Instr := [.iconst 0, .jsr 50]
def b178_50 : List Instr := [.ireturn]
def bk178 : Nat → List Instr := fun pc => match pc with
  | 0 => b178_0
  | 14 => b178_14
  | 16 => b178_16
  | 32 => b178_32
  | 35 => b178_35
  | 49 => b178_49
  | 50 => b178_50
  | _ => []
/-- 179: FieldsByDotsModel.common(II)I -/
def b179_0 : List Instr := [.iload 1, .invokeinterface 119 1, .ifCond .eq 14, .iload 2, .invokeinterface 119 1, .ifCond .ne 16, .jsr 14]
def b179_14 : List Instr := [.iconst (-1), .ireturn]
def b179_16 : List Instr := [.aload 0, .iload 1, .invokeinterface 135 2, .ifCond .eq 32, .aload 0, .iload 2, .invokeinterface 135 2, .ifCond .ne 35, .jsr 32]
def b179_32 : List Instr := [.iconst (-3), .ireturn]
def b179_35 : List Instr := [.iconst 0, .istore 3, .iconst 0, .istore 4, .jsr 40]
def b179_40 : List Instr := [.iload 4, .iconst 256, .if_icmp .ge 106, .iload 3, .aload 0, .iload 1, .iload 4, .iconst 16, .idiv, .i2l, .iload 4, .iconst 16, .irem, .i2l, .goto_w 1, .invokeinterface 143 5, .iconst 2, .if_icmp .ge 97, .aload 0, .iload 2, .iload 4, .iconst 16, .idiv, .i2l, .iload 4, .iconst 16, .irem, .i2l, .goto_w 1, .invokeinterface 143 5, .iconst 2, .if_icmp .ge 97, .iconst 1, .goto 98]
def b179_97 : List Instr := [.iconst 0, .jsr 98]
def b179_98 : List Instr := [.iadd, .istore 3, .iinc 4 1, .goto 40]
def b179_106 : List Instr := [.iload 3, .ireturn]
def bk179 : Nat → List Instr := fun pc => match pc with
  | 0 => b179_0
  | 14 => b179_14
  | 16 => b179_16
  | 32 => b179_32
  | 35 => b179_35
  | 40 => b179_40
  | 97 => b179_97
  | 98 => b179_98
  | 106 => b179_106
  | _ => []
/-- 180: FieldsByDotsModel.corners()I -/
def b180_0 : List Instr := [.aload 0, .getfield 199, .iconst 0, .iaload, .aload 0, .getfield 199, .iconst 1, .iaload, .iadd, .aload 0, .getfield 199, .iconst 2, .iaload, .iadd, .aload 0, .getfield 199, .iconst 3, .iaload, .iadd, .ireturn]
def bk180 : Nat → List Instr := fun pc => match pc with
  | 0 => b180_0
  | _ => []
/-- 181: FieldsByDotsModel.keep(I)I -/
def b181_0 : List Instr := [.iload 1, .i2l, .goto_w 0, .goto_w 1, .invokeinterface 112 3, .ifCond .ne 12, .iconst (-1), .ireturn]
def b181_12 : List Instr := [.aload 0, .getfield 216, .iload 1, .iconst 1, .bastore, .iconst 0, .istore 2, .jsr 21]
def b181_21 : List Instr := [.iload 2, .iconst 40, .if_icmp .ge 67, .aload 0, .getfield 217, .iconst 40, .iload 1, .imul, .iload 2, .iadd, .aload 0, .getfield 197, .iload 2, .iaload, .iastore, .aload 0, .getfield 218, .iconst 40, .iload 1, .imul, .iload 2, .iadd, .aload 0, .getfield 198, .iload 2, .iaload, .iastore, .iinc 2 1, .goto 21]
def b181_67 : List Instr := [.iconst 0, .istore 2, .jsr 69]
def b181_69 : List Instr := [.iload 2, .iconst 4, .if_icmp .ge 96, .aload 0, .getfield 219, .iconst 4, .iload 1, .imul, .iload 2, .iadd, .aload 0, .getfield 199, .iload 2, .iaload, .iastore, .iinc 2 1, .goto 69]
def b181_96 : List Instr := [.aload 0, .invokeinterface 180 1, .ireturn]
def bk181 : Nat → List Instr := fun pc => match pc with
  | 0 => b181_0
  | 12 => b181_12
  | 21 => b181_21
  | 67 => b181_67
  | 69 => b181_69
  | 96 => b181_96
  | _ => []
/-- 182: FieldsByDotsModel.again(I)I -/
def b182_0 : List Instr := [.iload 1, .i2l, .goto_w 0, .goto_w 1, .invokeinterface 112 3, .ifCond .ne 12, .iconst (-1), .ireturn]
def b182_12 : List Instr := [.aload 0, .getfield 216, .iload 1, .baload, .ifCond .ne 24, .iconst (-3), .ireturn]
def b182_24 : List Instr := [.iconst 0, .istore 2, .jsr 26]
def b182_26 : List Instr := [.iload 2, .iconst 40, .if_icmp .ge 72, .aload 0, .getfield 197, .iload 2, .aload 0, .getfield 217, .iconst 40, .iload 1, .imul, .iload 2, .iadd, .iaload, .iastore, .aload 0, .getfield 198, .iload 2, .aload 0, .getfield 218, .iconst 40, .iload 1, .imul, .iload 2, .iadd, .iaload, .iastore, .iinc 2 1, .goto 26]
def b182_72 : List Instr := [.iconst 0, .istore 2, .jsr 74]
def b182_74 : List Instr := [.iload 2, .iconst 4, .if_icmp .ge 101, .aload 0, .getfield 199, .iload 2, .aload 0, .getfield 219, .iconst 4, .iload 1, .imul, .iload 2, .iadd, .iaload, .iastore, .iinc 2 1, .goto 74]
def b182_101 : List Instr := [.aload 0, .invokeinterface 180 1, .ireturn]
def bk182 : Nat → List Instr := fun pc => match pc with
  | 0 => b182_0
  | 12 => b182_12
  | 24 => b182_24
  | 26 => b182_26
  | 72 => b182_72
  | 74 => b182_74
  | 101 => b182_101
  | _ => []
/-- 183: FieldsByDotsModel.count(I)I -/
def b183_0 : List Instr := [.iconst 0, .istore 2, .iconst 0, .istore 3, .jsr 4]
def b183_4 : List Instr := [.iload 3, .iconst 4, .if_icmp .ge 31, .iload 2, .aload 0, .iload 3, .invokeinterface 135 2, .ifCond .eq 22, .iconst 1, .goto 23]
def b183_22 : List Instr := [.iconst 0, .jsr 23]
def b183_23 : List Instr := [.iadd, .istore 2, .iinc 3 1, .goto 4]
def b183_31 : List Instr := [.iload 1, .ifCond .ne 42, .aload 0, .getfield 193, .goto 65]
def b183_42 : List Instr := [.iload 1, .iconst 1, .if_icmp .ne 54, .aload 0, .invokeinterface 180 1, .goto 65]
def b183_54 : List Instr := [.iload 1, .iconst 2, .if_icmp .ne 63, .iload 2, .goto 65]
def b183_63 : List Instr := [.iconst (-2), .jsr 65]
def b183_65 : List Instr := [.ireturn]
def bk183 : Nat → List Instr := fun pc => match pc with
  | 0 => b183_0
  | 4 => b183_4
  | 22 => b183_22
  | 23 => b183_23
  | 31 => b183_31
  | 42 => b183_42
  | 54 => b183_54
  | 63 => b183_63
  | 65 => b183_65
  | _ => []
/-- 184: FieldsByDotsLaw.law([I)Z -/
def b184_0 : List Instr := [.new 5, .dup, .invokeinterface 66 1, .astore 1, .new 6, .dup, .invokeinterface 111 1, .astore 2, .iconst 0, .istore 3, .jsr 18]
def b184_18 : List Instr := [.iload 3, .aload 0, .arraylength, .iconst 5, .isub, .if_icmp .gt 1242, .aload 0, .iload 3, .iaload, .iconst 31, .iand, .tableswitch 1236 0 30 #[172, 235, 248, 261, 284, 327, 380, 433, 466, 499, 542, 565, 598, 641, 674, 717, 750, 784, 817, 860, 903, 936, 959, 1002, 1025, 1068, 1101, 1134, 1167, 1190, 1213]]
def b184_172 : List Instr := [.aload 1, .aload 0, .iload 3, .iconst 1, .iadd, .iaload, .aload 0, .iload 3, .iconst 2, .iadd, .iaload, .i2l, .iconst 32, .lshl, .aload 0, .iload 3, .iconst 3, .iadd, .iaload, .i2l, .goto_w 4294967295, .land, .lor, .invokeinterface 67 3, .aload 2, .aload 0, .iload 3, .iconst 1, .iadd, .iaload, .aload 0, .iload 3, .iconst 2, .iadd, .iaload, .i2l, .iconst 32, .lshl, .aload 0, .iload 3, .iconst 3, .iadd, .iaload, .i2l, .goto_w 4294967295, .land, .lor, .invokeinterface 113 3, .if_icmp .eq 1236, .iconst 0, .freturn]
def b184_235 : List Instr := [.aload 1, .invokeinterface 68 1, .aload 2, .invokeinterface 114 1, .if_icmp .eq 1236, .iconst 0, .freturn]
def b184_248 : List Instr := [.aload 1, .invokeinterface 69 1, .aload 2, .invokeinterface 118 1, .if_icmp .eq 1236, .iconst 0, .freturn]
def b184_261 : List Instr := [.aload 1, .aload 0, .iload 3, .iconst 1, .iadd, .iaload, .invokeinterface 70 2, .aload 2, .aload 0, .iload 3, .iconst 1, .iadd, .iaload, .invokeinterface 122 2, .if_icmp .eq 1236, .iconst 0, .freturn]
def b184_284 : List Instr := [.aload 1, .aload 0, .iload 3, .iconst 1, .iadd, .iaload, .aload 0, .iload 3, .iconst 2, .iadd, .iaload, .aload 0, .iload 3, .iconst 3, .iadd, .iaload, .invokeinterface 71 4, .aload 2, .aload 0, .iload 3, .iconst 1, .iadd, .iaload, .aload 0, .iload 3, .iconst 2, .iadd, .iaload, .aload 0, .iload 3, .iconst 3, .iadd, .iaload, .invokeinterface 123 4, .if_icmp .eq 1236, .iconst 0, .freturn]
def b184_327 : List Instr := [.aload 1, .aload 0, .iload 3, .iconst 1, .iadd, .iaload, .aload 0, .iload 3, .iconst 2, .iadd, .iaload, .aload 0, .iload 3, .iconst 3, .iadd, .iaload, .aload 0, .iload 3, .iconst 4, .iadd, .iaload, .invokeinterface 72 5, .aload 2, .aload 0, .iload 3, .iconst 1, .iadd, .iaload, .aload 0, .iload 3, .iconst 2, .iadd, .iaload, .aload 0, .iload 3, .iconst 3, .iadd, .iaload, .aload 0, .iload 3, .iconst 4, .iadd, .iaload, .invokeinterface 125 5, .if_icmp .eq 1236, .iconst 0, .freturn]
def b184_380 : List Instr := [.aload 1, .aload 0, .iload 3, .iconst 1, .iadd, .iaload, .aload 0, .iload 3, .iconst 2, .iadd, .iaload, .aload 0, .iload 3, .iconst 3, .iadd, .iaload, .aload 0, .iload 3, .iconst 4, .iadd, .iaload, .invokeinterface 73 5, .aload 2, .aload 0, .iload 3, .iconst 1, .iadd, .iaload, .aload 0, .iload 3, .iconst 2, .iadd, .iaload, .aload 0, .iload 3, .iconst 3, .iadd, .iaload, .aload 0, .iload 3, .iconst 4, .iadd, .iaload, .invokeinterface 126 5, .if_icmp .eq 1236, .iconst 0, .freturn]
def b184_433 : List Instr := [.aload 1, .aload 0, .iload 3, .iconst 1, .iadd, .iaload, .aload 0, .iload 3, .iconst 2, .iadd, .iaload, .invokeinterface 74 3, .aload 2, .aload 0, .iload 3, .iconst 1, .iadd, .iaload, .aload 0, .iload 3, .iconst 2, .iadd, .iaload, .invokeinterface 127 3, .if_icmp .eq 1236, .iconst 0, .freturn]
def b184_466 : List Instr := [.aload 1, .aload 0, .iload 3, .iconst 1, .iadd, .iaload, .aload 0, .iload 3, .iconst 2, .iadd, .iaload, .invokeinterface 75 3, .aload 2, .aload 0, .iload 3, .iconst 1, .iadd, .iaload, .aload 0, .iload 3, .iconst 2, .iadd, .iaload, .invokeinterface 128 3, .if_icmp .eq 1236, .iconst 0, .freturn]
def b184_499 : List Instr := [.aload 1, .aload 0, .iload 3, .iconst 1, .iadd, .iaload, .aload 0, .iload 3, .iconst 2, .iadd, .iaload, .aload 0, .iload 3, .iconst 3, .iadd, .iaload, .invokeinterface 76 4, .aload 2, .aload 0, .iload 3, .iconst 1, .iadd, .iaload, .aload 0, .iload 3, .iconst 2, .iadd, .iaload, .aload 0, .iload 3, .iconst 3, .iadd, .iaload, .invokeinterface 129 4, .if_icmp .eq 1236, .iconst 0, .freturn]
def b184_542 : List Instr := [.aload 1, .aload 0, .iload 3, .iconst 1, .iadd, .iaload, .invokeinterface 77 2, .aload 2, .aload 0, .iload 3, .iconst 1, .iadd, .iaload, .invokeinterface 136 2, .if_icmp .eq 1236, .iconst 0, .freturn]
def b184_565 : List Instr := [.aload 1, .aload 0, .iload 3, .iconst 1, .iadd, .iaload, .aload 0, .iload 3, .iconst 2, .iadd, .iaload, .invokeinterface 78 3, .aload 2, .aload 0, .iload 3, .iconst 1, .iadd, .iaload, .aload 0, .iload 3, .iconst 2, .iadd, .iaload, .invokeinterface 164 3, .if_icmp .eq 1236, .iconst 0, .freturn]
def b184_598 : List Instr := [.aload 1, .aload 0, .iload 3, .iconst 1, .iadd, .iaload, .aload 0, .iload 3, .iconst 2, .iadd, .iaload, .aload 0, .iload 3, .iconst 3, .iadd, .iaload, .invokeinterface 79 4, .aload 2, .aload 0, .iload 3, .iconst 1, .iadd, .iaload, .aload 0, .iload 3, .iconst 2, .iadd, .iaload, .aload 0, .iload 3, .iconst 3, .iadd, .iaload, .invokeinterface 144 4, .if_icmp .eq 1236, .iconst 0, .freturn]
def b184_641 : List Instr := [.aload 1, .aload 0, .iload 3, .iconst 1, .iadd, .iaload, .aload 0, .iload 3, .iconst 2, .iadd, .iaload, .invokeinterface 80 3, .aload 2, .aload 0, .iload 3, .iconst 1, .iadd, .iaload, .aload 0, .iload 3, .iconst 2, .iadd, .iaload, .invokeinterface 145 3, .if_icmp .eq 1236, .iconst 0, .freturn]
def b184_674 : List Instr := [.aload 1, .aload 0, .iload 3, .iconst 1, .iadd, .iaload, .aload 0, .iload 3, .iconst 2, .iadd, .iaload, .aload 0, .iload 3, .iconst 3, .iadd, .iaload, .invokeinterface 81 4, .aload 2, .aload 0, .iload 3, .iconst 1, .iadd, .iaload, .aload 0, .iload 3, .iconst 2, .iadd, .iaload, .aload 0, .iload 3, .iconst 3, .iadd, .iaload, .invokeinterface 147 4, .if_icmp .eq 1236, .iconst 0, .freturn]
def b184_717 : List Instr := [.aload 1, .aload 0, .iload 3, .iconst 1, .iadd, .iaload, .aload 0, .iload 3, .iconst 2, .iadd, .iaload, .invokeinterface 82 3, .aload 2, .aload 0, .iload 3, .iconst 1, .iadd, .iaload, .aload 0, .iload 3, .iconst 2, .iadd, .iaload, .invokeinterface 148 3, .if_icmp .eq 1236, .iconst 0, .freturn]
def b184_750 : List Instr := [.aload 1, .aload 0, .iload 3, .iconst 1, .iadd, .iaload, .aload 0, .iload 3, .iconst 2, .iadd, .iaload, .invokeinterface 83 3, .aload 2, .aload 0, .iload 3, .iconst 1, .iadd, .iaload, .aload 0, .iload 3, .iconst 2, .iadd, .iaload, .invokeinterface 149 3, .lcmp, .ifCond .eq 1236, .iconst 0, .freturn]
def b184_784 : List Instr := [.aload 1, .aload 0, .iload 3, .iconst 1, .iadd, .iaload, .aload 0, .iload 3, .iconst 2, .iadd, .iaload, .invokeinterface 84 3, .aload 2, .aload 0, .iload 3, .iconst 1, .iadd, .iaload, .aload 0, .iload 3, .iconst 2, .iadd, .iaload, .invokeinterface 150 3, .if_icmp .eq 1236, .iconst 0, .freturn]
def b184_817 : List Instr := [.aload 1, .aload 0, .iload 3, .iconst 1, .iadd, .iaload, .aload 0, .iload 3, .iconst 2, .iadd, .iaload, .aload 0, .iload 3, .iconst 3, .iadd, .iaload, .invokeinterface 85 4, .aload 2, .aload 0, .iload 3, .iconst 1, .iadd, .iaload, .aload 0, .iload 3, .iconst 2, .iadd, .iaload, .aload 0, .iload 3, .iconst 3, .iadd, .iaload, .invokeinterface 160 4, .if_icmp .eq 1236, .iconst 0, .freturn]
def b184_860 : List Instr := [.aload 1, .aload 0, .iload 3, .iconst 1, .iadd, .iaload, .aload 0, .iload 3, .iconst 2, .iadd, .iaload, .aload 0, .iload 3, .iconst 3, .iadd, .iaload, .invokeinterface 86 4, .aload 2, .aload 0, .iload 3, .iconst 1, .iadd, .iaload, .aload 0, .iload 3, .iconst 2, .iadd, .iaload, .aload 0, .iload 3, .iconst 3, .iadd, .iaload, .invokeinterface 161 4, .if_icmp .eq 1236, .iconst 0, .freturn]
def b184_903 : List Instr := [.aload 1, .aload 0, .iload 3, .iconst 1, .iadd, .iaload, .aload 0, .iload 3, .iconst 2, .iadd, .iaload, .invokeinterface 87 3, .aload 2, .aload 0, .iload 3, .iconst 1, .iadd, .iaload, .aload 0, .iload 3, .iconst 2, .iadd, .iaload, .invokeinterface 167 3, .if_icmp .eq 1236, .iconst 0, .freturn]
def b184_936 : List Instr := [.aload 1, .aload 0, .iload 3, .iconst 1, .iadd, .iaload, .invokeinterface 88 2, .aload 2, .aload 0, .iload 3, .iconst 1, .iadd, .iaload, .invokeinterface 169 2, .if_icmp .eq 1236, .iconst 0, .freturn]
def b184_959 : List Instr := [.aload 1, .aload 0, .iload 3, .iconst 1, .iadd, .iaload, .aload 0, .iload 3, .iconst 2, .iadd, .iaload, .aload 0, .iload 3, .iconst 3, .iadd, .iaload, .invokeinterface 89 4, .aload 2, .aload 0, .iload 3, .iconst 1, .iadd, .iaload, .aload 0, .iload 3, .iconst 2, .iadd, .iaload, .aload 0, .iload 3, .iconst 3, .iadd, .iaload, .invokeinterface 170 4, .if_icmp .eq 1236, .iconst 0, .freturn]
def b184_1002 : List Instr := [.aload 1, .aload 0, .iload 3, .iconst 1, .iadd, .iaload, .invokeinterface 90 2, .aload 2, .aload 0, .iload 3, .iconst 1, .iadd, .iaload, .invokeinterface 173 2, .if_icmp .eq 1236, .iconst 0, .freturn]
def b184_1025 : List Instr := [.aload 1, .aload 0, .iload 3, .iconst 1, .iadd, .iaload, .aload 0, .iload 3, .iconst 2, .iadd, .iaload, .aload 0, .iload 3, .iconst 3, .iadd, .iaload, .invokeinterface 91 4, .aload 2, .aload 0, .iload 3, .iconst 1, .iadd, .iaload, .aload 0, .iload 3, .iconst 2, .iadd, .iaload, .aload 0, .iload 3, .iconst 3, .iadd, .iaload, .invokeinterface 174 4, .if_icmp .eq 1236, .iconst 0, .freturn]
def b184_1068 : List Instr := [.aload 1, .aload 0, .iload 3, .iconst 1, .iadd, .iaload, .aload 0, .iload 3, .iconst 2, .iadd, .iaload, .invokeinterface 92 3, .aload 2, .aload 0, .iload 3, .iconst 1, .iadd, .iaload, .aload 0, .iload 3, .iconst 2, .iadd, .iaload, .invokeinterface 177 3, .if_icmp .eq 1236, .iconst 0, .freturn]
def b184_1101 : List Instr := [.aload 1, .aload 0, .iload 3, .iconst 1, .iadd, .iaload, .aload 0, .iload 3, .iconst 2, .iadd, .iaload, .invokeinterface 93 3, .aload 2, .aload 0, .iload 3, .iconst 1, .iadd, .iaload, .aload 0, .iload 3, .iconst 2, .iadd, .iaload, .invokeinterface 178 3, .if_icmp .eq 1236, .iconst 0, .freturn]
def b184_1134 : List Instr := [.aload 1, .aload 0, .iload 3, .iconst 1, .iadd, .iaload, .aload 0, .iload 3, .iconst 2, .iadd, .iaload, .invokeinterface 94 3, .aload 2, .aload 0, .iload 3, .iconst 1, .iadd, .iaload, .aload 0, .iload 3, .iconst 2, .iadd, .iaload, .invokeinterface 179 3, .if_icmp .eq 1236, .iconst 0, .freturn]
def b184_1167 : List Instr := [.aload 1, .aload 0, .iload 3, .iconst 1, .iadd, .iaload, .invokeinterface 95 2, .aload 2, .aload 0, .iload 3, .iconst 1, .iadd, .iaload, .invokeinterface 181 2, .if_icmp .eq 1236, .iconst 0, .freturn]
def b184_1190 : List Instr := [.aload 1, .aload 0, .iload 3, .iconst 1, .iadd, .iaload, .invokeinterface 96 2, .aload 2, .aload 0, .iload 3, .iconst 1, .iadd, .iaload, .invokeinterface 182 2, .if_icmp .eq 1236, .iconst 0, .freturn]
def b184_1213 : List Instr := [.aload 1, .aload 0, .iload 3, .iconst 1, .iadd, .iaload, .invokeinterface 97 2, .aload 2, .aload 0, .iload 3, .iconst 1, .iadd, .iaload, .invokeinterface 183 2, .if_icmp .eq 1236, .iconst 0, .freturn]
def b184_1236 : List Instr := [.iinc 3 5, .goto 18]
def b184_1242 : List Instr := [.iconst 1, .freturn]
def bk184 : Nat → List Instr := fun pc => match pc with
  | 0 => b184_0
  | 18 => b184_18
  | 172 => b184_172
  | 235 => b184_235
  | 248 => b184_248
  | 261 => b184_261
  | 284 => b184_284
  | 327 => b184_327
  | 380 => b184_380
  | 433 => b184_433
  | 466 => b184_466
  | 499 => b184_499
  | 542 => b184_542
  | 565 => b184_565
  | 598 => b184_598
  | 641 => b184_641
  | 674 => b184_674
  | 717 => b184_717
  | 750 => b184_750
  | 784 => b184_784
  | 817 => b184_817
  | 860 => b184_860
  | 903 => b184_903
  | 936 => b184_936
  | 959 => b184_959
  | 1002 => b184_1002
  | 1025 => b184_1025
  | 1068 => b184_1068
  | 1101 => b184_1101
  | 1134 => b184_1134
  | 1167 => b184_1167
  | 1190 => b184_1190
  | 1213 => b184_1213
  | 1236 => b184_1236
  | 1242 => b184_1242
  | _ => []
/-- 185: java/lang/Integer.bitCount(I)I -/
def b185_0 : List Instr := [.iload 0, .iload 0, .iconst 1, .iushr, .iconst 1431655765, .iand, .isub, .istore 0, .iload 0, .iconst 858993459, .iand, .iload 0, .iconst 2, .iushr, .iconst 858993459, .iand, .iadd, .istore 0, .iload 0, .iload 0, .iconst 4, .iushr, .iadd, .iconst 252645135, .iand, .istore 0, .iload 0, .iload 0, .iconst 8, .iushr, .iadd, .istore 0, .iload 0, .iload 0, .iconst 16, .iushr, .iadd, .istore 0, .iload 0, .iconst 63, .iand, .ireturn]
def bk185 : Nat → List Instr := fun pc => match pc with
  | 0 => b185_0
  | _ => []
/-- 186: java/lang/Math.abs(I)I -/
def b186_0 : List Instr := [.iload 0, .ifCond .ge 9, .iload 0, .ineg, .goto 10]
def b186_9 : List Instr := [.iload 0, .jsr 10]
def b186_10 : List Instr := [.ireturn]
def bk186 : Nat → List Instr := fun pc => match pc with
  | 0 => b186_0
  | 9 => b186_9
  | 10 => b186_10
  | _ => []
/-- 187: java/lang/Math.max(II)I -/
def b187_0 : List Instr := [.iload 0, .iload 1, .if_icmp .lt 9, .iload 0, .goto 10]
def b187_9 : List Instr := [.iload 1, .jsr 10]
def b187_10 : List Instr := [.ireturn]
def bk187 : Nat → List Instr := fun pc => match pc with
  | 0 => b187_0
  | 9 => b187_9
  | 10 => b187_10
  | _ => []
/-- 188: java/lang/Math.min(II)I -/
def b188_0 : List Instr := [.iload 0, .iload 1, .if_icmp .gt 9, .iload 0, .goto 10]
def b188_9 : List Instr := [.iload 1, .jsr 10]
def b188_10 : List Instr := [.ireturn]
def bk188 : Nat → List Instr := fun pc => match pc with
  | 0 => b188_0
  | 9 => b188_9
  | 10 => b188_10
  | _ => []
def bq0 : Nat → Nat → List Instr := fun k => match k with
  | 0 => bk0
  | 1 => bk1
  | 2 => bk2
  | 3 => bk3
  | 4 => bk4
  | 5 => bk5
  | 6 => bk6
  | 7 => bk7
  | 8 => bk8
  | 9 => bk9
  | _ => fun _ => []
def bq1 : Nat → Nat → List Instr := fun k => match k with
  | 0 => bk10
  | 1 => bk11
  | 2 => bk12
  | 3 => bk13
  | 4 => bk14
  | 5 => bk15
  | 6 => bk16
  | 7 => bk17
  | 8 => bk18
  | 9 => bk19
  | _ => fun _ => []
def bq2 : Nat → Nat → List Instr := fun k => match k with
  | 0 => bk20
  | 1 => bk21
  | 2 => bk22
  | 3 => bk23
  | 4 => bk24
  | 5 => bk25
  | 6 => bk26
  | 7 => bk27
  | 8 => bk28
  | 9 => bk29
  | _ => fun _ => []
def bq3 : Nat → Nat → List Instr := fun k => match k with
  | 0 => bk30
  | 1 => bk31
  | 2 => bk32
  | 3 => bk33
  | 4 => bk34
  | 5 => bk35
  | 6 => bk36
  | 7 => bk37
  | 8 => bk38
  | 9 => bk39
  | _ => fun _ => []
def bq4 : Nat → Nat → List Instr := fun k => match k with
  | 0 => bk40
  | 1 => bk41
  | 2 => bk42
  | 3 => bk43
  | 4 => bk44
  | 5 => bk45
  | 6 => bk46
  | 7 => bk47
  | 8 => bk48
  | 9 => bk49
  | _ => fun _ => []
def bq5 : Nat → Nat → List Instr := fun k => match k with
  | 0 => bk50
  | 1 => bk51
  | 2 => bk52
  | 3 => bk53
  | 4 => bk54
  | 5 => bk55
  | 6 => bk56
  | 7 => bk57
  | 8 => bk58
  | 9 => bk59
  | _ => fun _ => []
def bq6 : Nat → Nat → List Instr := fun k => match k with
  | 0 => bk60
  | 1 => bk61
  | 2 => bk62
  | 3 => bk63
  | 4 => bk64
  | 5 => bk65
  | 6 => bk66
  | 7 => bk67
  | 8 => bk68
  | 9 => bk69
  | _ => fun _ => []
def bq7 : Nat → Nat → List Instr := fun k => match k with
  | 0 => bk70
  | 1 => bk71
  | 2 => bk72
  | 3 => bk73
  | 4 => bk74
  | 5 => bk75
  | 6 => bk76
  | 7 => bk77
  | 8 => bk78
  | 9 => bk79
  | _ => fun _ => []
def bq8 : Nat → Nat → List Instr := fun k => match k with
  | 0 => bk80
  | 1 => bk81
  | 2 => bk82
  | 3 => bk83
  | 4 => bk84
  | 5 => bk85
  | 6 => bk86
  | 7 => bk87
  | 8 => bk88
  | 9 => bk89
  | _ => fun _ => []
def bq9 : Nat → Nat → List Instr := fun k => match k with
  | 0 => bk90
  | 1 => bk91
  | 2 => bk92
  | 3 => bk93
  | 4 => bk94
  | 5 => bk95
  | 6 => bk96
  | 7 => bk97
  | 8 => bk98
  | 9 => bk99
  | _ => fun _ => []
def bq10 : Nat → Nat → List Instr := fun k => match k with
  | 0 => bk100
  | 1 => bk101
  | 2 => bk102
  | 3 => bk103
  | 4 => bk104
  | 5 => bk105
  | 6 => bk106
  | 7 => bk107
  | 8 => bk108
  | 9 => bk109
  | _ => fun _ => []
def bq11 : Nat → Nat → List Instr := fun k => match k with
  | 0 => bk110
  | 1 => bk111
  | 2 => bk112
  | 3 => bk113
  | 4 => bk114
  | 5 => bk115
  | 6 => bk116
  | 7 => bk117
  | 8 => bk118
  | 9 => bk119
  | _ => fun _ => []
def bq12 : Nat → Nat → List Instr := fun k => match k with
  | 0 => bk120
  | 1 => bk121
  | 2 => bk122
  | 3 => bk123
  | 4 => bk124
  | 5 => bk125
  | 6 => bk126
  | 7 => bk127
  | 8 => bk128
  | 9 => bk129
  | _ => fun _ => []
def bq13 : Nat → Nat → List Instr := fun k => match k with
  | 0 => bk130
  | 1 => bk131
  | 2 => bk132
  | 3 => bk133
  | 4 => bk134
  | 5 => bk135
  | 6 => bk136
  | 7 => bk137
  | 8 => bk138
  | 9 => bk139
  | _ => fun _ => []
def bq14 : Nat → Nat → List Instr := fun k => match k with
  | 0 => bk140
  | 1 => bk141
  | 2 => bk142
  | 3 => bk143
  | 4 => bk144
  | 5 => bk145
  | 6 => bk146
  | 7 => bk147
  | 8 => bk148
  | 9 => bk149
  | _ => fun _ => []
def bq15 : Nat → Nat → List Instr := fun k => match k with
  | 0 => bk150
  | 1 => bk151
  | 2 => bk152
  | 3 => bk153
  | 4 => bk154
  | 5 => bk155
  | 6 => bk156
  | 7 => bk157
  | 8 => bk158
  | 9 => bk159
  | _ => fun _ => []
def bq16 : Nat → Nat → List Instr := fun k => match k with
  | 0 => bk160
  | 1 => bk161
  | 2 => bk162
  | 3 => bk163
  | 4 => bk164
  | 5 => bk165
  | 6 => bk166
  | 7 => bk167
  | 8 => bk168
  | 9 => bk169
  | _ => fun _ => []
def bq17 : Nat → Nat → List Instr := fun k => match k with
  | 0 => bk170
  | 1 => bk171
  | 2 => bk172
  | 3 => bk173
  | 4 => bk174
  | 5 => bk175
  | 6 => bk176
  | 7 => bk177
  | 8 => bk178
  | 9 => bk179
  | _ => fun _ => []
def bq18 : Nat → Nat → List Instr := fun k => match k with
  | 0 => bk180
  | 1 => bk181
  | 2 => bk182
  | 3 => bk183
  | 4 => bk184
  | 5 => bk185
  | 6 => bk186
  | 7 => bk187
  | 8 => bk188
  | _ => fun _ => []
def blkT : Nat → Nat → Nat → List Instr := fun t => match t with
  | 0 => bq0
  | 1 => bq1
  | 2 => bq2
  | 3 => bq3
  | 4 => bq4
  | 5 => bq5
  | 6 => bq6
  | 7 => bq7
  | 8 => bq8
  | 9 => bq9
  | 10 => bq10
  | 11 => bq11
  | 12 => bq12
  | 13 => bq13
  | 14 => bq14
  | 15 => bq15
  | 16 => bq16
  | 17 => bq17
  | 18 => bq18
  | _ => fun _ _ => []
def blk (k pc : Nat) : List Instr := blkT (k / 10) (k % 10) pc
theorem B0_0 : blk 0 0 = b0_0 := rfl
theorem B1_0 : blk 1 0 = b1_0 := rfl
theorem B1_10 : blk 1 10 = b1_10 := rfl
theorem B1_21 : blk 1 21 = b1_21 := rfl
theorem B1_85 : blk 1 85 = b1_85 := rfl
theorem B1_91 : blk 1 91 = b1_91 := rfl
theorem B1_97 : blk 1 97 = b1_97 := rfl
theorem B2_0 : blk 2 0 = b2_0 := rfl
theorem B2_50 : blk 2 50 = b2_50 := rfl
theorem B2_66 : blk 2 66 = b2_66 := rfl
theorem B2_71 : blk 2 71 = b2_71 := rfl
theorem B2_103 : blk 2 103 = b2_103 := rfl
theorem B3_0 : blk 3 0 = b3_0 := rfl
theorem B4_0 : blk 4 0 = b4_0 := rfl
theorem B4_21 : blk 4 21 = b4_21 := rfl
theorem B4_71 : blk 4 71 = b4_71 := rfl
theorem B4_75 : blk 4 75 = b4_75 := rfl
theorem B4_76 : blk 4 76 = b4_76 := rfl
theorem B4_106 : blk 4 106 = b4_106 := rfl
theorem B4_122 : blk 4 122 = b4_122 := rfl
theorem B5_0 : blk 5 0 = b5_0 := rfl
theorem B6_0 : blk 6 0 = b6_0 := rfl
theorem B7_0 : blk 7 0 = b7_0 := rfl
theorem B8_0 : blk 8 0 = b8_0 := rfl
theorem B9_0 : blk 9 0 = b9_0 := rfl
theorem B9_4 : blk 9 4 = b9_4 := rfl
theorem B9_17 : blk 9 17 = b9_17 := rfl
theorem B9_60 : blk 9 60 = b9_60 := rfl
theorem B9_63 : blk 9 63 = b9_63 := rfl
theorem B9_69 : blk 9 69 = b9_69 := rfl
theorem B9_75 : blk 9 75 = b9_75 := rfl
theorem B10_0 : blk 10 0 = b10_0 := rfl
theorem B11_0 : blk 11 0 = b11_0 := rfl
theorem B11_13 : blk 11 13 = b11_13 := rfl
theorem B11_16 : blk 11 16 = b11_16 := rfl
theorem B11_44 : blk 11 44 = b11_44 := rfl
theorem B11_63 : blk 11 63 = b11_63 := rfl
theorem B11_69 : blk 11 69 = b11_69 := rfl
theorem B12_0 : blk 12 0 = b12_0 := rfl
theorem B12_14 : blk 12 14 = b12_14 := rfl
theorem B12_59 : blk 12 59 = b12_59 := rfl
theorem B12_65 : blk 12 65 = b12_65 := rfl
theorem B12_73 : blk 12 73 = b12_73 := rfl
theorem B13_0 : blk 13 0 = b13_0 := rfl
theorem B13_2 : blk 13 2 = b13_2 := rfl
theorem B13_26 : blk 13 26 = b13_26 := rfl
theorem B13_36 : blk 13 36 = b13_36 := rfl
theorem B13_60 : blk 13 60 = b13_60 := rfl
theorem B13_94 : blk 13 94 = b13_94 := rfl
theorem B13_95 : blk 13 95 = b13_95 := rfl
theorem B14_0 : blk 14 0 = b14_0 := rfl
theorem B14_135 : blk 14 135 = b14_135 := rfl
theorem B14_137 : blk 14 137 = b14_137 := rfl
theorem B14_140 : blk 14 140 = b14_140 := rfl
theorem B14_208 : blk 14 208 = b14_208 := rfl
theorem B14_214 : blk 14 214 = b14_214 := rfl
theorem B15_0 : blk 15 0 = b15_0 := rfl
theorem B16_0 : blk 16 0 = b16_0 := rfl
theorem B16_16 : blk 16 16 = b16_16 := rfl
theorem B16_17 : blk 16 17 = b16_17 := rfl
theorem B17_0 : blk 17 0 = b17_0 := rfl
theorem B17_2 : blk 17 2 = b17_2 := rfl
theorem B17_32 : blk 17 32 = b17_32 := rfl
theorem B17_38 : blk 17 38 = b17_38 := rfl
theorem B18_0 : blk 18 0 = b18_0 := rfl
theorem B18_10 : blk 18 10 = b18_10 := rfl
theorem B18_48 : blk 18 48 = b18_48 := rfl
theorem B19_0 : blk 19 0 = b19_0 := rfl
theorem B19_6 : blk 19 6 = b19_6 := rfl
theorem B19_50 : blk 19 50 = b19_50 := rfl
theorem B20_0 : blk 20 0 = b20_0 := rfl
theorem B20_2 : blk 20 2 = b20_2 := rfl
theorem B20_46 : blk 20 46 = b20_46 := rfl
theorem B21_0 : blk 21 0 = b21_0 := rfl
theorem B21_2 : blk 21 2 = b21_2 := rfl
theorem B21_31 : blk 21 31 = b21_31 := rfl
theorem B22_0 : blk 22 0 = b22_0 := rfl
theorem B22_2 : blk 22 2 = b22_2 := rfl
theorem B22_45 : blk 22 45 = b22_45 := rfl
theorem B23_0 : blk 23 0 = b23_0 := rfl
theorem B23_2 : blk 23 2 = b23_2 := rfl
theorem B23_34 : blk 23 34 = b23_34 := rfl
theorem B23_40 : blk 23 40 = b23_40 := rfl
theorem B24_0 : blk 24 0 = b24_0 := rfl
theorem B24_2 : blk 24 2 = b24_2 := rfl
theorem B24_36 : blk 24 36 = b24_36 := rfl
theorem B25_0 : blk 25 0 = b25_0 := rfl
theorem B25_16 : blk 25 16 = b25_16 := rfl
theorem B25_17 : blk 25 17 = b25_17 := rfl
theorem B26_0 : blk 26 0 = b26_0 := rfl
theorem B26_10 : blk 26 10 = b26_10 := rfl
theorem B26_16 : blk 26 16 = b26_16 := rfl
theorem B27_0 : blk 27 0 = b27_0 := rfl
theorem B28_0 : blk 28 0 = b28_0 := rfl
theorem B29_0 : blk 29 0 = b29_0 := rfl
theorem B29_24 : blk 29 24 = b29_24 := rfl
theorem B29_25 : blk 29 25 = b29_25 := rfl
theorem B30_0 : blk 30 0 = b30_0 := rfl
theorem B30_43 : blk 30 43 = b30_43 := rfl
theorem B30_44 : blk 30 44 = b30_44 := rfl
theorem B31_0 : blk 31 0 = b31_0 := rfl
theorem B31_10 : blk 31 10 = b31_10 := rfl
theorem B31_12 : blk 31 12 = b31_12 := rfl
theorem B31_30 : blk 31 30 = b31_30 := rfl
theorem B31_34 : blk 31 34 = b31_34 := rfl
theorem B31_62 : blk 31 62 = b31_62 := rfl
theorem B31_68 : blk 31 68 = b31_68 := rfl
theorem B31_74 : blk 31 74 = b31_74 := rfl
theorem B32_0 : blk 32 0 = b32_0 := rfl
theorem B32_36 : blk 32 36 = b32_36 := rfl
theorem B32_37 : blk 32 37 = b32_37 := rfl
theorem B33_0 : blk 33 0 = b33_0 := rfl
theorem B33_74 : blk 33 74 = b33_74 := rfl
theorem B33_78 : blk 33 78 = b33_78 := rfl
theorem B33_79 : blk 33 79 = b33_79 := rfl
theorem B33_80 : blk 33 80 = b33_80 := rfl
theorem B33_112 : blk 33 112 = b33_112 := rfl
theorem B33_113 : blk 33 113 = b33_113 := rfl
theorem B34_0 : blk 34 0 = b34_0 := rfl
theorem B35_0 : blk 35 0 = b35_0 := rfl
theorem B35_5 : blk 35 5 = b35_5 := rfl
theorem B35_24 : blk 35 24 = b35_24 := rfl
theorem B35_25 : blk 35 25 = b35_25 := rfl
theorem B35_67 : blk 35 67 = b35_67 := rfl
theorem B36_0 : blk 36 0 = b36_0 := rfl
theorem B37_0 : blk 37 0 = b37_0 := rfl
theorem B37_4 : blk 37 4 = b37_4 := rfl
theorem B37_62 : blk 37 62 = b37_62 := rfl
theorem B38_0 : blk 38 0 = b38_0 := rfl
theorem B39_0 : blk 39 0 = b39_0 := rfl
theorem B39_22 : blk 39 22 = b39_22 := rfl
theorem B39_30 : blk 39 30 = b39_30 := rfl
theorem B39_31 : blk 39 31 = b39_31 := rfl
theorem B39_42 : blk 39 42 = b39_42 := rfl
theorem B39_43 : blk 39 43 = b39_43 := rfl
theorem B39_50 : blk 39 50 = b39_50 := rfl
theorem B39_51 : blk 39 51 = b39_51 := rfl
theorem B40_0 : blk 40 0 = b40_0 := rfl
theorem B40_4 : blk 40 4 = b40_4 := rfl
theorem B40_24 : blk 40 24 = b40_24 := rfl
theorem B40_30 : blk 40 30 = b40_30 := rfl
theorem B41_0 : blk 41 0 = b41_0 := rfl
theorem B41_24 : blk 41 24 = b41_24 := rfl
theorem B41_76 : blk 41 76 = b41_76 := rfl
theorem B42_0 : blk 42 0 = b42_0 := rfl
theorem B42_5 : blk 42 5 = b42_5 := rfl
theorem B42_108 : blk 42 108 = b42_108 := rfl
theorem B42_117 : blk 42 117 = b42_117 := rfl
theorem B42_118 : blk 42 118 = b42_118 := rfl
theorem B42_127 : blk 42 127 = b42_127 := rfl
theorem B42_128 : blk 42 128 = b42_128 := rfl
theorem B42_140 : blk 42 140 = b42_140 := rfl
theorem B42_141 : blk 42 141 = b42_141 := rfl
theorem B42_152 : blk 42 152 = b42_152 := rfl
theorem B42_153 : blk 42 153 = b42_153 := rfl
theorem B42_164 : blk 42 164 = b42_164 := rfl
theorem B42_165 : blk 42 165 = b42_165 := rfl
theorem B42_166 : blk 42 166 = b42_166 := rfl
theorem B42_172 : blk 42 172 = b42_172 := rfl
theorem B42_180 : blk 42 180 = b42_180 := rfl
theorem B42_181 : blk 42 181 = b42_181 := rfl
theorem B43_0 : blk 43 0 = b43_0 := rfl
theorem B43_2 : blk 43 2 = b43_2 := rfl
theorem B43_22 : blk 43 22 = b43_22 := rfl
theorem B43_28 : blk 43 28 = b43_28 := rfl
theorem B44_0 : blk 44 0 = b44_0 := rfl
theorem B44_4 : blk 44 4 = b44_4 := rfl
theorem B44_57 : blk 44 57 = b44_57 := rfl
theorem B44_59 : blk 44 59 = b44_59 := rfl
theorem B44_65 : blk 44 65 = b44_65 := rfl
theorem B44_75 : blk 44 75 = b44_75 := rfl
theorem B44_116 : blk 44 116 = b44_116 := rfl
theorem B44_122 : blk 44 122 = b44_122 := rfl
theorem B45_0 : blk 45 0 = b45_0 := rfl
theorem B45_8 : blk 45 8 = b45_8 := rfl
theorem B45_55 : blk 45 55 = b45_55 := rfl
theorem B45_57 : blk 45 57 = b45_57 := rfl
theorem B45_63 : blk 45 63 = b45_63 := rfl
theorem B46_0 : blk 46 0 = b46_0 := rfl
theorem B46_5 : blk 46 5 = b46_5 := rfl
theorem B46_48 : blk 46 48 = b46_48 := rfl
theorem B46_50 : blk 46 50 = b46_50 := rfl
theorem B46_59 : blk 46 59 = b46_59 := rfl
theorem B47_0 : blk 47 0 = b47_0 := rfl
theorem B47_23 : blk 47 23 = b47_23 := rfl
theorem B47_25 : blk 47 25 = b47_25 := rfl
theorem B47_58 : blk 47 58 = b47_58 := rfl
theorem B47_59 : blk 47 59 = b47_59 := rfl
theorem B48_0 : blk 48 0 = b48_0 := rfl
theorem B48_5 : blk 48 5 = b48_5 := rfl
theorem B48_28 : blk 48 28 = b48_28 := rfl
theorem B48_34 : blk 48 34 = b48_34 := rfl
theorem B49_0 : blk 49 0 = b49_0 := rfl
theorem B49_2 : blk 49 2 = b49_2 := rfl
theorem B49_27 : blk 49 27 = b49_27 := rfl
theorem B49_33 : blk 49 33 = b49_33 := rfl
theorem B50_0 : blk 50 0 = b50_0 := rfl
theorem B51_0 : blk 51 0 = b51_0 := rfl
theorem B52_0 : blk 52 0 = b52_0 := rfl
theorem B53_0 : blk 53 0 = b53_0 := rfl
theorem B53_10 : blk 53 10 = b53_10 := rfl
theorem B53_38 : blk 53 38 = b53_38 := rfl
theorem B53_40 : blk 53 40 = b53_40 := rfl
theorem B53_52 : blk 53 52 = b53_52 := rfl
theorem B53_85 : blk 53 85 = b53_85 := rfl
theorem B53_99 : blk 53 99 = b53_99 := rfl
theorem B53_123 : blk 53 123 = b53_123 := rfl
theorem B53_129 : blk 53 129 = b53_129 := rfl
theorem B53_135 : blk 53 135 = b53_135 := rfl
theorem B54_0 : blk 54 0 = b54_0 := rfl
theorem B54_18 : blk 54 18 = b54_18 := rfl
theorem B54_19 : blk 54 19 = b54_19 := rfl
theorem B55_0 : blk 55 0 = b55_0 := rfl
theorem B55_4 : blk 55 4 = b55_4 := rfl
theorem B55_30 : blk 55 30 = b55_30 := rfl
theorem B56_0 : blk 56 0 = b56_0 := rfl
theorem B56_4 : blk 56 4 = b56_4 := rfl
theorem B56_30 : blk 56 30 = b56_30 := rfl
theorem B56_36 : blk 56 36 = b56_36 := rfl
theorem B57_0 : blk 57 0 = b57_0 := rfl
theorem B57_13 : blk 57 13 = b57_13 := rfl
theorem B57_40 : blk 57 40 = b57_40 := rfl
theorem B57_46 : blk 57 46 = b57_46 := rfl
theorem B58_0 : blk 58 0 = b58_0 := rfl
theorem B58_7 : blk 58 7 = b58_7 := rfl
theorem B58_36 : blk 58 36 = b58_36 := rfl
theorem B59_0 : blk 59 0 = b59_0 := rfl
theorem B60_0 : blk 60 0 = b60_0 := rfl
theorem B60_5 : blk 60 5 = b60_5 := rfl
theorem B60_47 : blk 60 47 = b60_47 := rfl
theorem B61_0 : blk 61 0 = b61_0 := rfl
theorem B61_2 : blk 61 2 = b61_2 := rfl
theorem B61_20 : blk 61 20 = b61_20 := rfl
theorem B61_26 : blk 61 26 = b61_26 := rfl
theorem B61_48 : blk 61 48 = b61_48 := rfl
theorem B61_49 : blk 61 49 = b61_49 := rfl
theorem B61_59 : blk 61 59 = b61_59 := rfl
theorem B61_63 : blk 61 63 = b61_63 := rfl
theorem B62_0 : blk 62 0 = b62_0 := rfl
theorem B62_20 : blk 62 20 = b62_20 := rfl
theorem B62_22 : blk 62 22 = b62_22 := rfl
theorem B62_41 : blk 62 41 = b62_41 := rfl
theorem B62_42 : blk 62 42 = b62_42 := rfl
theorem B63_0 : blk 63 0 = b63_0 := rfl
theorem B63_2 : blk 63 2 = b63_2 := rfl
theorem B63_43 : blk 63 43 = b63_43 := rfl
theorem B63_49 : blk 63 49 = b63_49 := rfl
theorem B64_0 : blk 64 0 = b64_0 := rfl
theorem B64_17 : blk 64 17 = b64_17 := rfl
theorem B64_39 : blk 64 39 = b64_39 := rfl
theorem B64_41 : blk 64 41 = b64_41 := rfl
theorem B65_0 : blk 65 0 = b65_0 := rfl
theorem B65_12 : blk 65 12 = b65_12 := rfl
theorem B65_62 : blk 65 62 = b65_62 := rfl
theorem B66_0 : blk 66 0 = b66_0 := rfl
theorem B66_25 : blk 66 25 = b66_25 := rfl
theorem B66_49 : blk 66 49 = b66_49 := rfl
theorem B66_60 : blk 66 60 = b66_60 := rfl
theorem B66_85 : blk 66 85 = b66_85 := rfl
theorem B67_0 : blk 67 0 = b67_0 := rfl
theorem B67_11 : blk 67 11 = b67_11 := rfl
theorem B67_14 : blk 67 14 = b67_14 := rfl
theorem B67_31 : blk 67 31 = b67_31 := rfl
theorem B68_0 : blk 68 0 = b68_0 := rfl
theorem B69_0 : blk 69 0 = b69_0 := rfl
theorem B70_0 : blk 70 0 = b70_0 := rfl
theorem B70_9 : blk 70 9 = b70_9 := rfl
theorem B70_24 : blk 70 24 = b70_24 := rfl
theorem B71_0 : blk 71 0 = b71_0 := rfl
theorem B71_11 : blk 71 11 = b71_11 := rfl
theorem B71_23 : blk 71 23 = b71_23 := rfl
theorem B71_41 : blk 71 41 = b71_41 := rfl
theorem B71_52 : blk 71 52 = b71_52 := rfl
theorem B72_0 : blk 72 0 = b72_0 := rfl
theorem B72_11 : blk 72 11 = b72_11 := rfl
theorem B72_23 : blk 72 23 = b72_23 := rfl
theorem B72_45 : blk 72 45 = b72_45 := rfl
theorem B72_55 : blk 72 55 = b72_55 := rfl
theorem B73_0 : blk 73 0 = b73_0 := rfl
theorem B73_24 : blk 73 24 = b73_24 := rfl
theorem B73_26 : blk 73 26 = b73_26 := rfl
theorem B73_38 : blk 73 38 = b73_38 := rfl
theorem B73_58 : blk 73 58 = b73_58 := rfl
theorem B73_75 : blk 73 75 = b73_75 := rfl
theorem B74_0 : blk 74 0 = b74_0 := rfl
theorem B74_11 : blk 74 11 = b74_11 := rfl
theorem B74_27 : blk 74 27 = b74_27 := rfl
theorem B75_0 : blk 75 0 = b75_0 := rfl
theorem B75_9 : blk 75 9 = b75_9 := rfl
theorem B75_19 : blk 75 19 = b75_19 := rfl
theorem B75_22 : blk 75 22 = b75_22 := rfl
theorem B75_36 : blk 75 36 = b75_36 := rfl
theorem B75_38 : blk 75 38 = b75_38 := rfl
theorem B75_60 : blk 75 60 = b75_60 := rfl
theorem B76_0 : blk 76 0 = b76_0 := rfl
theorem B76_9 : blk 76 9 = b76_9 := rfl
theorem B76_33 : blk 76 33 = b76_33 := rfl
theorem B76_36 : blk 76 36 = b76_36 := rfl
theorem B76_53 : blk 76 53 = b76_53 := rfl
theorem B77_0 : blk 77 0 = b77_0 := rfl
theorem B77_9 : blk 77 9 = b77_9 := rfl
theorem B77_25 : blk 77 25 = b77_25 := rfl
theorem B77_26 : blk 77 26 = b77_26 := rfl
theorem B78_0 : blk 78 0 = b78_0 := rfl
theorem B78_9 : blk 78 9 = b78_9 := rfl
theorem B78_19 : blk 78 19 = b78_19 := rfl
theorem B78_22 : blk 78 22 = b78_22 := rfl
theorem B78_37 : blk 78 37 = b78_37 := rfl
theorem B78_56 : blk 78 56 = b78_56 := rfl
theorem B78_67 : blk 78 67 = b78_67 := rfl
theorem B79_0 : blk 79 0 = b79_0 := rfl
theorem B79_9 : blk 79 9 = b79_9 := rfl
theorem B79_20 : blk 79 20 = b79_20 := rfl
theorem B79_35 : blk 79 35 = b79_35 := rfl
theorem B80_0 : blk 80 0 = b80_0 := rfl
theorem B80_11 : blk 80 11 = b80_11 := rfl
theorem B80_26 : blk 80 26 = b80_26 := rfl
theorem B81_0 : blk 81 0 = b81_0 := rfl
theorem B81_9 : blk 81 9 = b81_9 := rfl
theorem B81_20 : blk 81 20 = b81_20 := rfl
theorem B81_35 : blk 81 35 = b81_35 := rfl
theorem B82_0 : blk 82 0 = b82_0 := rfl
theorem B82_9 : blk 82 9 = b82_9 := rfl
theorem B82_18 : blk 82 18 = b82_18 := rfl
theorem B82_21 : blk 82 21 = b82_21 := rfl
theorem B82_36 : blk 82 36 = b82_36 := rfl
theorem B83_0 : blk 83 0 = b83_0 := rfl
theorem B83_11 : blk 83 11 = b83_11 := rfl
theorem B83_22 : blk 83 22 = b83_22 := rfl
theorem B83_26 : blk 83 26 = b83_26 := rfl
theorem B83_42 : blk 83 42 = b83_42 := rfl
theorem B84_0 : blk 84 0 = b84_0 := rfl
theorem B84_14 : blk 84 14 = b84_14 := rfl
theorem B84_16 : blk 84 16 = b84_16 := rfl
theorem B84_31 : blk 84 31 = b84_31 := rfl
theorem B85_0 : blk 85 0 = b85_0 := rfl
theorem B85_15 : blk 85 15 = b85_15 := rfl
theorem B85_17 : blk 85 17 = b85_17 := rfl
theorem B85_32 : blk 85 32 = b85_32 := rfl
theorem B85_50 : blk 85 50 = b85_50 := rfl
theorem B85_51 : blk 85 51 = b85_51 := rfl
theorem B86_0 : blk 86 0 = b86_0 := rfl
theorem B86_15 : blk 86 15 = b86_15 := rfl
theorem B86_17 : blk 86 17 = b86_17 := rfl
theorem B86_32 : blk 86 32 = b86_32 := rfl
theorem B86_50 : blk 86 50 = b86_50 := rfl
theorem B86_51 : blk 86 51 = b86_51 := rfl
theorem B87_0 : blk 87 0 = b87_0 := rfl
theorem B87_9 : blk 87 9 = b87_9 := rfl
theorem B87_24 : blk 87 24 = b87_24 := rfl
theorem B88_0 : blk 88 0 = b88_0 := rfl
theorem B88_9 : blk 88 9 = b88_9 := rfl
theorem B88_24 : blk 88 24 = b88_24 := rfl
theorem B89_0 : blk 89 0 = b89_0 := rfl
theorem B89_12 : blk 89 12 = b89_12 := rfl
theorem B89_38 : blk 89 38 = b89_38 := rfl
theorem B89_41 : blk 89 41 = b89_41 := rfl
theorem B90_0 : blk 90 0 = b90_0 := rfl
theorem B90_9 : blk 90 9 = b90_9 := rfl
theorem B90_24 : blk 90 24 = b90_24 := rfl
theorem B91_0 : blk 91 0 = b91_0 := rfl
theorem B91_12 : blk 91 12 = b91_12 := rfl
theorem B91_27 : blk 91 27 = b91_27 := rfl
theorem B92_0 : blk 92 0 = b92_0 := rfl
theorem B92_13 : blk 92 13 = b92_13 := rfl
theorem B92_59 : blk 92 59 = b92_59 := rfl
theorem B92_63 : blk 92 63 = b92_63 := rfl
theorem B92_64 : blk 92 64 = b92_64 := rfl
theorem B92_75 : blk 92 75 = b92_75 := rfl
theorem B92_76 : blk 92 76 = b92_76 := rfl
theorem B93_0 : blk 93 0 = b93_0 := rfl
theorem B93_13 : blk 93 13 = b93_13 := rfl
theorem B93_40 : blk 93 40 = b93_40 := rfl
theorem B93_41 : blk 93 41 = b93_41 := rfl
theorem B94_0 : blk 94 0 = b94_0 := rfl
theorem B94_13 : blk 94 13 = b94_13 := rfl
theorem B94_19 : blk 94 19 = b94_19 := rfl
theorem B94_29 : blk 94 29 = b94_29 := rfl
theorem B94_81 : blk 94 81 = b94_81 := rfl
theorem B94_87 : blk 94 87 = b94_87 := rfl
theorem B94_93 : blk 94 93 = b94_93 := rfl
theorem B95_0 : blk 95 0 = b95_0 := rfl
theorem B95_9 : blk 95 9 = b95_9 := rfl
theorem B95_11 : blk 95 11 = b95_11 := rfl
theorem B95_13 : blk 95 13 = b95_13 := rfl
theorem B95_43 : blk 95 43 = b95_43 := rfl
theorem B96_0 : blk 96 0 = b96_0 := rfl
theorem B96_9 : blk 96 9 = b96_9 := rfl
theorem B96_11 : blk 96 11 = b96_11 := rfl
theorem B96_23 : blk 96 23 = b96_23 := rfl
theorem B96_25 : blk 96 25 = b96_25 := rfl
theorem B96_55 : blk 96 55 = b96_55 := rfl
theorem B97_0 : blk 97 0 = b97_0 := rfl
theorem B97_28 : blk 97 28 = b97_28 := rfl
theorem B97_36 : blk 97 36 = b97_36 := rfl
theorem B97_41 : blk 97 41 = b97_41 := rfl
theorem B97_46 : blk 97 46 = b97_46 := rfl
theorem B98_0 : blk 98 0 = b98_0 := rfl
theorem B98_13 : blk 98 13 = b98_13 := rfl
theorem B98_14 : blk 98 14 = b98_14 := rfl
theorem B99_0 : blk 99 0 = b99_0 := rfl
theorem B99_24 : blk 99 24 = b99_24 := rfl
theorem B99_25 : blk 99 25 = b99_25 := rfl
theorem B100_0 : blk 100 0 = b100_0 := rfl
theorem B100_32 : blk 100 32 = b100_32 := rfl
theorem B100_36 : blk 100 36 = b100_36 := rfl
theorem B100_37 : blk 100 37 = b100_37 := rfl
theorem B101_0 : blk 101 0 = b101_0 := rfl
theorem B101_24 : blk 101 24 = b101_24 := rfl
theorem B101_25 : blk 101 25 = b101_25 := rfl
theorem B102_0 : blk 102 0 = b102_0 := rfl
theorem B102_22 : blk 102 22 = b102_22 := rfl
theorem B102_23 : blk 102 23 = b102_23 := rfl
theorem B103_0 : blk 103 0 = b103_0 := rfl
theorem B103_14 : blk 103 14 = b103_14 := rfl
theorem B103_16 : blk 103 16 = b103_16 := rfl
theorem B103_44 : blk 103 44 = b103_44 := rfl
theorem B103_46 : blk 103 46 = b103_46 := rfl
theorem B104_0 : blk 104 0 = b104_0 := rfl
theorem B104_36 : blk 104 36 = b104_36 := rfl
theorem B104_44 : blk 104 44 = b104_44 := rfl
theorem B104_55 : blk 104 55 = b104_55 := rfl
theorem B104_56 : blk 104 56 = b104_56 := rfl
theorem B104_57 : blk 104 57 = b104_57 := rfl
theorem B104_62 : blk 104 62 = b104_62 := rfl
theorem B104_67 : blk 104 67 = b104_67 := rfl
theorem B104_73 : blk 104 73 = b104_73 := rfl
theorem B105_0 : blk 105 0 = b105_0 := rfl
theorem B105_22 : blk 105 22 = b105_22 := rfl
theorem B105_50 : blk 105 50 = b105_50 := rfl
theorem B105_57 : blk 105 57 = b105_57 := rfl
theorem B106_0 : blk 106 0 = b106_0 := rfl
theorem B106_15 : blk 106 15 = b106_15 := rfl
theorem B106_26 : blk 106 26 = b106_26 := rfl
theorem B106_75 : blk 106 75 = b106_75 := rfl
theorem B106_81 : blk 106 81 = b106_81 := rfl
theorem B106_87 : blk 106 87 = b106_87 := rfl
theorem B106_93 : blk 106 93 = b106_93 := rfl
theorem B106_102 : blk 106 102 = b106_102 := rfl
theorem B106_107 : blk 106 107 = b106_107 := rfl
theorem B107_0 : blk 107 0 = b107_0 := rfl
theorem B107_8 : blk 107 8 = b107_8 := rfl
theorem B107_23 : blk 107 23 = b107_23 := rfl
theorem B107_68 : blk 107 68 = b107_68 := rfl
theorem B107_80 : blk 107 80 = b107_80 := rfl
theorem B107_86 : blk 107 86 = b107_86 := rfl
theorem B107_92 : blk 107 92 = b107_92 := rfl
theorem B108_0 : blk 108 0 = b108_0 := rfl
theorem B108_4 : blk 108 4 = b108_4 := rfl
theorem B108_27 : blk 108 27 = b108_27 := rfl
theorem B109_0 : blk 109 0 = b109_0 := rfl
theorem B109_4 : blk 109 4 = b109_4 := rfl
theorem B109_24 : blk 109 24 = b109_24 := rfl
theorem B109_30 : blk 109 30 = b109_30 := rfl
theorem B110_0 : blk 110 0 = b110_0 := rfl
theorem B110_3 : blk 110 3 = b110_3 := rfl
theorem B110_22 : blk 110 22 = b110_22 := rfl
theorem B110_28 : blk 110 28 = b110_28 := rfl
theorem B111_0 : blk 111 0 = b111_0 := rfl
theorem B112_0 : blk 112 0 = b112_0 := rfl
theorem B112_17 : blk 112 17 = b112_17 := rfl
theorem B112_18 : blk 112 18 = b112_18 := rfl
theorem B113_0 : blk 113 0 = b113_0 := rfl
theorem B113_15 : blk 113 15 = b113_15 := rfl
theorem B113_29 : blk 113 29 = b113_29 := rfl
theorem B113_34 : blk 113 34 = b113_34 := rfl
theorem B113_76 : blk 113 76 = b113_76 := rfl
theorem B114_0 : blk 114 0 = b114_0 := rfl
theorem B115_0 : blk 115 0 = b115_0 := rfl
theorem B115_21 : blk 115 21 = b115_21 := rfl
theorem B115_42 : blk 115 42 = b115_42 := rfl
theorem B115_43 : blk 115 43 = b115_43 := rfl
theorem B116_0 : blk 116 0 = b116_0 := rfl
theorem B116_5 : blk 116 5 = b116_5 := rfl
theorem B116_40 : blk 116 40 = b116_40 := rfl
theorem B116_44 : blk 116 44 = b116_44 := rfl
theorem B116_45 : blk 116 45 = b116_45 := rfl
theorem B116_52 : blk 116 52 = b116_52 := rfl
theorem B117_0 : blk 117 0 = b117_0 := rfl
theorem B117_7 : blk 117 7 = b117_7 := rfl
theorem B117_64 : blk 117 64 = b117_64 := rfl
theorem B117_66 : blk 117 66 = b117_66 := rfl
theorem B117_113 : blk 117 113 = b117_113 := rfl
theorem B117_119 : blk 117 119 = b117_119 := rfl
theorem B117_137 : blk 117 137 = b117_137 := rfl
theorem B117_144 : blk 117 144 = b117_144 := rfl
theorem B117_146 : blk 117 146 = b117_146 := rfl
theorem B118_0 : blk 118 0 = b118_0 := rfl
theorem B119_0 : blk 119 0 = b119_0 := rfl
theorem B120_0 : blk 120 0 = b120_0 := rfl
theorem B120_29 : blk 120 29 = b120_29 := rfl
theorem B120_30 : blk 120 30 = b120_30 := rfl
theorem B121_0 : blk 121 0 = b121_0 := rfl
theorem B121_28 : blk 121 28 = b121_28 := rfl
theorem B121_29 : blk 121 29 = b121_29 := rfl
theorem B122_0 : blk 122 0 = b122_0 := rfl
theorem B122_9 : blk 122 9 = b122_9 := rfl
theorem B122_21 : blk 122 21 = b122_21 := rfl
theorem B122_33 : blk 122 33 = b122_33 := rfl
theorem B122_81 : blk 122 81 = b122_81 := rfl
theorem B123_0 : blk 123 0 = b123_0 := rfl
theorem B123_11 : blk 123 11 = b123_11 := rfl
theorem B123_29 : blk 123 29 = b123_29 := rfl
theorem B123_48 : blk 123 48 = b123_48 := rfl
theorem B123_50 : blk 123 50 = b123_50 := rfl
theorem B124_0 : blk 124 0 = b124_0 := rfl
theorem B124_3 : blk 124 3 = b124_3 := rfl
theorem B124_49 : blk 124 49 = b124_49 := rfl
theorem B124_55 : blk 124 55 = b124_55 := rfl
theorem B125_0 : blk 125 0 = b125_0 := rfl
theorem B125_11 : blk 125 11 = b125_11 := rfl
theorem B125_23 : blk 125 23 = b125_23 := rfl
theorem B125_49 : blk 125 49 = b125_49 := rfl
theorem B125_84 : blk 125 84 = b125_84 := rfl
theorem B125_85 : blk 125 85 = b125_85 := rfl
theorem B126_0 : blk 126 0 = b126_0 := rfl
theorem B126_23 : blk 126 23 = b126_23 := rfl
theorem B126_25 : blk 126 25 = b126_25 := rfl
theorem B126_37 : blk 126 37 = b126_37 := rfl
theorem B126_53 : blk 126 53 = b126_53 := rfl
theorem B126_67 : blk 126 67 = b126_67 := rfl
theorem B126_75 : blk 126 75 = b126_75 := rfl
theorem B126_139 : blk 126 139 = b126_139 := rfl
theorem B127_0 : blk 127 0 = b127_0 := rfl
theorem B127_11 : blk 127 11 = b127_11 := rfl
theorem B127_24 : blk 127 24 = b127_24 := rfl
theorem B127_36 : blk 127 36 = b127_36 := rfl
theorem B127_100 : blk 127 100 = b127_100 := rfl
theorem B128_0 : blk 128 0 = b128_0 := rfl
theorem B128_9 : blk 128 9 = b128_9 := rfl
theorem B128_24 : blk 128 24 = b128_24 := rfl
theorem B128_29 : blk 128 29 = b128_29 := rfl
theorem B128_66 : blk 128 66 = b128_66 := rfl
theorem B128_72 : blk 128 72 = b128_72 := rfl
theorem B128_76 : blk 128 76 = b128_76 := rfl
theorem B128_121 : blk 128 121 = b128_121 := rfl
theorem B128_127 : blk 128 127 = b128_127 := rfl
theorem B129_0 : blk 129 0 = b129_0 := rfl
theorem B129_9 : blk 129 9 = b129_9 := rfl
theorem B129_37 : blk 129 37 = b129_37 := rfl
theorem B129_40 : blk 129 40 = b129_40 := rfl
theorem B129_46 : blk 129 46 = b129_46 := rfl
theorem B129_89 : blk 129 89 = b129_89 := rfl
theorem B129_95 : blk 129 95 = b129_95 := rfl
theorem B129_101 : blk 129 101 = b129_101 := rfl
theorem B129_145 : blk 129 145 = b129_145 := rfl
theorem B130_0 : blk 130 0 = b130_0 := rfl
theorem B131_0 : blk 131 0 = b131_0 := rfl
theorem B132_0 : blk 132 0 = b132_0 := rfl
theorem B132_64 : blk 132 64 = b132_64 := rfl
theorem B132_65 : blk 132 65 = b132_65 := rfl
theorem B133_0 : blk 133 0 = b133_0 := rfl
theorem B133_66 : blk 133 66 = b133_66 := rfl
theorem B133_82 : blk 133 82 = b133_82 := rfl
theorem B133_98 : blk 133 98 = b133_98 := rfl
theorem B133_114 : blk 133 114 = b133_114 := rfl
theorem B133_118 : blk 133 118 = b133_118 := rfl
theorem B133_119 : blk 133 119 = b133_119 := rfl
theorem B133_142 : blk 133 142 = b133_142 := rfl
theorem B133_146 : blk 133 146 = b133_146 := rfl
theorem B133_147 : blk 133 147 = b133_147 := rfl
theorem B134_0 : blk 134 0 = b134_0 := rfl
theorem B134_8 : blk 134 8 = b134_8 := rfl
theorem B134_16 : blk 134 16 = b134_16 := rfl
theorem B134_17 : blk 134 17 = b134_17 := rfl
theorem B135_0 : blk 135 0 = b135_0 := rfl
theorem B135_16 : blk 135 16 = b135_16 := rfl
theorem B135_17 : blk 135 17 = b135_17 := rfl
theorem B135_21 : blk 135 21 = b135_21 := rfl
theorem B135_145 : blk 135 145 = b135_145 := rfl
theorem B135_146 : blk 135 146 = b135_146 := rfl
theorem B135_157 : blk 135 157 = b135_157 := rfl
theorem B135_158 : blk 135 158 = b135_158 := rfl
theorem B135_165 : blk 135 165 = b135_165 := rfl
theorem B135_213 : blk 135 213 = b135_213 := rfl
theorem B135_217 : blk 135 217 = b135_217 := rfl
theorem B135_218 : blk 135 218 = b135_218 := rfl
theorem B135_225 : blk 135 225 = b135_225 := rfl
theorem B135_231 : blk 135 231 = b135_231 := rfl
theorem B136_0 : blk 136 0 = b136_0 := rfl
theorem B136_9 : blk 136 9 = b136_9 := rfl
theorem B136_21 : blk 136 21 = b136_21 := rfl
theorem B136_22 : blk 136 22 = b136_22 := rfl
theorem B137_0 : blk 137 0 = b137_0 := rfl
theorem B137_8 : blk 137 8 = b137_8 := rfl
theorem B137_51 : blk 137 51 = b137_51 := rfl
theorem B138_0 : blk 138 0 = b138_0 := rfl
theorem B139_0 : blk 139 0 = b139_0 := rfl
theorem B139_9 : blk 139 9 = b139_9 := rfl
theorem B139_10 : blk 139 10 = b139_10 := rfl
theorem B140_0 : blk 140 0 = b140_0 := rfl
theorem B140_10 : blk 140 10 = b140_10 := rfl
theorem B140_27 : blk 140 27 = b140_27 := rfl
theorem B141_0 : blk 141 0 = b141_0 := rfl
theorem B141_4 : blk 141 4 = b141_4 := rfl
theorem B141_74 : blk 141 74 = b141_74 := rfl
theorem B142_0 : blk 142 0 = b142_0 := rfl
theorem B142_40 : blk 142 40 = b142_40 := rfl
theorem B142_41 : blk 142 41 = b142_41 := rfl
theorem B142_50 : blk 142 50 = b142_50 := rfl
theorem B142_58 : blk 142 58 = b142_58 := rfl
theorem B142_59 : blk 142 59 = b142_59 := rfl
theorem B143_0 : blk 143 0 = b143_0 := rfl
theorem B143_6 : blk 143 6 = b143_6 := rfl
theorem B143_152 : blk 143 152 = b143_152 := rfl
theorem B143_164 : blk 143 164 = b143_164 := rfl
theorem B143_165 : blk 143 165 = b143_165 := rfl
theorem B143_177 : blk 143 177 = b143_177 := rfl
theorem B143_178 : blk 143 178 = b143_178 := rfl
theorem B143_185 : blk 143 185 = b143_185 := rfl
theorem B143_186 : blk 143 186 = b143_186 := rfl
theorem B143_211 : blk 143 211 = b143_211 := rfl
theorem B143_218 : blk 143 218 = b143_218 := rfl
theorem B143_227 : blk 143 227 = b143_227 := rfl
theorem B143_231 : blk 143 231 = b143_231 := rfl
theorem B143_233 : blk 143 233 = b143_233 := rfl
theorem B143_241 : blk 143 241 = b143_241 := rfl
theorem B143_250 : blk 143 250 = b143_250 := rfl
theorem B143_251 : blk 143 251 = b143_251 := rfl
theorem B144_0 : blk 144 0 = b144_0 := rfl
theorem B144_9 : blk 144 9 = b144_9 := rfl
theorem B144_20 : blk 144 20 = b144_20 := rfl
theorem B144_41 : blk 144 41 = b144_41 := rfl
theorem B144_43 : blk 144 43 = b144_43 := rfl
theorem B145_0 : blk 145 0 = b145_0 := rfl
theorem B145_11 : blk 145 11 = b145_11 := rfl
theorem B145_28 : blk 145 28 = b145_28 := rfl
theorem B145_30 : blk 145 30 = b145_30 := rfl
theorem B146_0 : blk 146 0 = b146_0 := rfl
theorem B146_9 : blk 146 9 = b146_9 := rfl
theorem B146_63 : blk 146 63 = b146_63 := rfl
theorem B146_68 : blk 146 68 = b146_68 := rfl
theorem B146_70 : blk 146 70 = b146_70 := rfl
theorem B146_84 : blk 146 84 = b146_84 := rfl
theorem B146_89 : blk 146 89 = b146_89 := rfl
theorem B146_91 : blk 146 91 = b146_91 := rfl
theorem B146_99 : blk 146 99 = b146_99 := rfl
theorem B147_0 : blk 147 0 = b147_0 := rfl
theorem B147_9 : blk 147 9 = b147_9 := rfl
theorem B147_45 : blk 147 45 = b147_45 := rfl
theorem B147_48 : blk 147 48 = b147_48 := rfl
theorem B147_62 : blk 147 62 = b147_62 := rfl
theorem B147_69 : blk 147 69 = b147_69 := rfl
theorem B148_0 : blk 148 0 = b148_0 := rfl
theorem B148_9 : blk 148 9 = b148_9 := rfl
theorem B148_24 : blk 148 24 = b148_24 := rfl
theorem B148_36 : blk 148 36 = b148_36 := rfl
theorem B148_48 : blk 148 48 = b148_48 := rfl
theorem B148_59 : blk 148 59 = b148_59 := rfl
theorem B148_108 : blk 148 108 = b148_108 := rfl
theorem B148_114 : blk 148 114 = b148_114 := rfl
theorem B148_120 : blk 148 120 = b148_120 := rfl
theorem B148_128 : blk 148 128 = b148_128 := rfl
theorem B148_138 : blk 148 138 = b148_138 := rfl
theorem B148_143 : blk 148 143 = b148_143 := rfl
theorem B149_0 : blk 149 0 = b149_0 := rfl
theorem B149_11 : blk 149 11 = b149_11 := rfl
theorem B149_27 : blk 149 27 = b149_27 := rfl
theorem B149_71 : blk 149 71 = b149_71 := rfl
theorem B149_74 : blk 149 74 = b149_74 := rfl
theorem B150_0 : blk 150 0 = b150_0 := rfl
theorem B150_14 : blk 150 14 = b150_14 := rfl
theorem B150_16 : blk 150 16 = b150_16 := rfl
theorem B150_30 : blk 150 30 = b150_30 := rfl
theorem B150_94 : blk 150 94 = b150_94 := rfl
theorem B150_99 : blk 150 99 = b150_99 := rfl
theorem B150_100 : blk 150 100 = b150_100 := rfl
theorem B150_135 : blk 150 135 = b150_135 := rfl
theorem B150_139 : blk 150 139 = b150_139 := rfl
theorem B150_140 : blk 150 140 = b150_140 := rfl
theorem B150_148 : blk 150 148 = b150_148 := rfl
theorem B150_156 : blk 150 156 = b150_156 := rfl
theorem B150_165 : blk 150 165 = b150_165 := rfl
theorem B150_220 : blk 150 220 = b150_220 := rfl
theorem B150_221 : blk 150 221 = b150_221 := rfl
theorem B150_226 : blk 150 226 = b150_226 := rfl
theorem B150_237 : blk 150 237 = b150_237 := rfl
theorem B150_288 : blk 150 288 = b150_288 := rfl
theorem B151_0 : blk 151 0 = b151_0 := rfl
theorem B151_17 : blk 151 17 = b151_17 := rfl
theorem B151_21 : blk 151 21 = b151_21 := rfl
theorem B151_28 : blk 151 28 = b151_28 := rfl
theorem B151_54 : blk 151 54 = b151_54 := rfl
theorem B151_62 : blk 151 62 = b151_62 := rfl
theorem B151_89 : blk 151 89 = b151_89 := rfl
theorem B151_90 : blk 151 90 = b151_90 := rfl
theorem B151_102 : blk 151 102 = b151_102 := rfl
theorem B151_107 : blk 151 107 = b151_107 := rfl
theorem B151_108 : blk 151 108 = b151_108 := rfl
theorem B151_115 : blk 151 115 = b151_115 := rfl
theorem B152_0 : blk 152 0 = b152_0 := rfl
theorem B153_0 : blk 153 0 = b153_0 := rfl
theorem B153_9 : blk 153 9 = b153_9 := rfl
theorem B153_10 : blk 153 10 = b153_10 := rfl
theorem B153_15 : blk 153 15 = b153_15 := rfl
theorem B153_76 : blk 153 76 = b153_76 := rfl
theorem B154_0 : blk 154 0 = b154_0 := rfl
theorem B154_67 : blk 154 67 = b154_67 := rfl
theorem B154_68 : blk 154 68 = b154_68 := rfl
theorem B154_115 : blk 154 115 = b154_115 := rfl
theorem B154_117 : blk 154 117 = b154_117 := rfl
theorem B154_132 : blk 154 132 = b154_132 := rfl
theorem B154_137 : blk 154 137 = b154_137 := rfl
theorem B154_140 : blk 154 140 = b154_140 := rfl
theorem B155_0 : blk 155 0 = b155_0 := rfl
theorem B156_0 : blk 156 0 = b156_0 := rfl
theorem B156_36 : blk 156 36 = b156_36 := rfl
theorem B156_77 : blk 156 77 = b156_77 := rfl
theorem B156_83 : blk 156 83 = b156_83 := rfl
theorem B156_248 : blk 156 248 = b156_248 := rfl
theorem B156_249 : blk 156 249 = b156_249 := rfl
theorem B156_257 : blk 156 257 = b156_257 := rfl
theorem B157_0 : blk 157 0 = b157_0 := rfl
theorem B157_33 : blk 157 33 = b157_33 := rfl
theorem B157_35 : blk 157 35 = b157_35 := rfl
theorem B157_57 : blk 157 57 = b157_57 := rfl
theorem B157_117 : blk 157 117 = b157_117 := rfl
theorem B157_121 : blk 157 121 = b157_121 := rfl
theorem B157_122 : blk 157 122 = b157_122 := rfl
theorem B157_148 : blk 157 148 = b157_148 := rfl
theorem B157_152 : blk 157 152 = b157_152 := rfl
theorem B157_171 : blk 157 171 = b157_171 := rfl
theorem B157_172 : blk 157 172 = b157_172 := rfl
theorem B157_180 : blk 157 180 = b157_180 := rfl
theorem B157_233 : blk 157 233 = b157_233 := rfl
theorem B157_234 : blk 157 234 = b157_234 := rfl
theorem B158_0 : blk 158 0 = b158_0 := rfl
theorem B158_11 : blk 158 11 = b158_11 := rfl
theorem B158_15 : blk 158 15 = b158_15 := rfl
theorem B158_16 : blk 158 16 = b158_16 := rfl
theorem B158_28 : blk 158 28 = b158_28 := rfl
theorem B158_29 : blk 158 29 = b158_29 := rfl
theorem B158_42 : blk 158 42 = b158_42 := rfl
theorem B158_43 : blk 158 43 = b158_43 := rfl
theorem B158_128 : blk 158 128 = b158_128 := rfl
theorem B158_129 : blk 158 129 = b158_129 := rfl
theorem B159_0 : blk 159 0 = b159_0 := rfl
theorem B159_22 : blk 159 22 = b159_22 := rfl
theorem B159_23 : blk 159 23 = b159_23 := rfl
theorem B160_0 : blk 160 0 = b160_0 := rfl
theorem B160_15 : blk 160 15 = b160_15 := rfl
theorem B160_17 : blk 160 17 = b160_17 := rfl
theorem B160_30 : blk 160 30 = b160_30 := rfl
theorem B160_44 : blk 160 44 = b160_44 := rfl
theorem B160_45 : blk 160 45 = b160_45 := rfl
theorem B161_0 : blk 161 0 = b161_0 := rfl
theorem B161_15 : blk 161 15 = b161_15 := rfl
theorem B161_17 : blk 161 17 = b161_17 := rfl
theorem B161_30 : blk 161 30 = b161_30 := rfl
theorem B161_44 : blk 161 44 = b161_44 := rfl
theorem B161_45 : blk 161 45 = b161_45 := rfl
theorem B162_0 : blk 162 0 = b162_0 := rfl
theorem B162_4 : blk 162 4 = b162_4 := rfl
theorem B162_61 : blk 162 61 = b162_61 := rfl
theorem B162_62 : blk 162 62 = b162_62 := rfl
theorem B162_89 : blk 162 89 = b162_89 := rfl
theorem B162_90 : blk 162 90 = b162_90 := rfl
theorem B162_98 : blk 162 98 = b162_98 := rfl
theorem B163_0 : blk 163 0 = b163_0 := rfl
theorem B163_9 : blk 163 9 = b163_9 := rfl
theorem B163_17 : blk 163 17 = b163_17 := rfl
theorem B163_43 : blk 163 43 = b163_43 := rfl
theorem B163_47 : blk 163 47 = b163_47 := rfl
theorem B163_48 : blk 163 48 = b163_48 := rfl
theorem B163_59 : blk 163 59 = b163_59 := rfl
theorem B163_77 : blk 163 77 = b163_77 := rfl
theorem B163_88 : blk 163 88 = b163_88 := rfl
theorem B163_89 : blk 163 89 = b163_89 := rfl
theorem B163_100 : blk 163 100 = b163_100 := rfl
theorem B163_102 : blk 163 102 = b163_102 := rfl
theorem B163_110 : blk 163 110 = b163_110 := rfl
theorem B163_193 : blk 163 193 = b163_193 := rfl
theorem B163_195 : blk 163 195 = b163_195 := rfl
theorem B163_203 : blk 163 203 = b163_203 := rfl
theorem B163_224 : blk 163 224 = b163_224 := rfl
theorem B163_228 : blk 163 228 = b163_228 := rfl
theorem B163_229 : blk 163 229 = b163_229 := rfl
theorem B163_253 : blk 163 253 = b163_253 := rfl
theorem B163_254 : blk 163 254 = b163_254 := rfl
theorem B163_282 : blk 163 282 = b163_282 := rfl
theorem B163_284 : blk 163 284 = b163_284 := rfl
theorem B163_291 : blk 163 291 = b163_291 := rfl
theorem B163_297 : blk 163 297 = b163_297 := rfl
theorem B164_0 : blk 164 0 = b164_0 := rfl
theorem B164_9 : blk 164 9 = b164_9 := rfl
theorem B164_24 : blk 164 24 = b164_24 := rfl
theorem B164_35 : blk 164 35 = b164_35 := rfl
theorem B164_40 : blk 164 40 = b164_40 := rfl
theorem B164_68 : blk 164 68 = b164_68 := rfl
theorem B164_69 : blk 164 69 = b164_69 := rfl
theorem B164_76 : blk 164 76 = b164_76 := rfl
theorem B164_77 : blk 164 77 = b164_77 := rfl
theorem B164_85 : blk 164 85 = b164_85 := rfl
theorem B164_148 : blk 164 148 = b164_148 := rfl
theorem B164_157 : blk 164 157 = b164_157 := rfl
theorem B164_169 : blk 164 169 = b164_169 := rfl
theorem B164_170 : blk 164 170 = b164_170 := rfl
theorem B164_171 : blk 164 171 = b164_171 := rfl
theorem B164_177 : blk 164 177 = b164_177 := rfl
theorem B164_196 : blk 164 196 = b164_196 := rfl
theorem B164_199 : blk 164 199 = b164_199 := rfl
theorem B164_213 : blk 164 213 = b164_213 := rfl
theorem B164_227 : blk 164 227 = b164_227 := rfl
theorem B165_0 : blk 165 0 = b165_0 := rfl
theorem B165_33 : blk 165 33 = b165_33 := rfl
theorem B165_61 : blk 165 61 = b165_61 := rfl
theorem B165_112 : blk 165 112 = b165_112 := rfl
theorem B165_113 : blk 165 113 = b165_113 := rfl
theorem B165_120 : blk 165 120 = b165_120 := rfl
theorem B165_152 : blk 165 152 = b165_152 := rfl
theorem B165_155 : blk 165 155 = b165_155 := rfl
theorem B165_189 : blk 165 189 = b165_189 := rfl
theorem B165_190 : blk 165 190 = b165_190 := rfl
theorem B165_197 : blk 165 197 = b165_197 := rfl
theorem B165_203 : blk 165 203 = b165_203 := rfl
theorem B166_0 : blk 166 0 = b166_0 := rfl
theorem B166_40 : blk 166 40 = b166_40 := rfl
theorem B166_58 : blk 166 58 = b166_58 := rfl
theorem B166_62 : blk 166 62 = b166_62 := rfl
theorem B166_63 : blk 166 63 = b166_63 := rfl
theorem B167_0 : blk 167 0 = b167_0 := rfl
theorem B167_9 : blk 167 9 = b167_9 := rfl
theorem B167_20 : blk 167 20 = b167_20 := rfl
theorem B167_48 : blk 167 48 = b167_48 := rfl
theorem B167_50 : blk 167 50 = b167_50 := rfl
theorem B168_0 : blk 168 0 = b168_0 := rfl
theorem B168_15 : blk 168 15 = b168_15 := rfl
theorem B168_22 : blk 168 22 = b168_22 := rfl
theorem B169_0 : blk 169 0 = b169_0 := rfl
theorem B169_9 : blk 169 9 = b169_9 := rfl
theorem B169_20 : blk 169 20 = b169_20 := rfl
theorem B169_35 : blk 169 35 = b169_35 := rfl
theorem B169_70 : blk 169 70 = b169_70 := rfl
theorem B169_72 : blk 169 72 = b169_72 := rfl
theorem B169_85 : blk 169 85 = b169_85 := rfl
theorem B169_86 : blk 169 86 = b169_86 := rfl
theorem B169_98 : blk 169 98 = b169_98 := rfl
theorem B169_99 : blk 169 99 = b169_99 := rfl
theorem B169_106 : blk 169 106 = b169_106 := rfl
theorem B170_0 : blk 170 0 = b170_0 := rfl
theorem B170_12 : blk 170 12 = b170_12 := rfl
theorem B170_40 : blk 170 40 = b170_40 := rfl
theorem B170_42 : blk 170 42 = b170_42 := rfl
theorem B171_0 : blk 171 0 = b171_0 := rfl
theorem B171_2 : blk 171 2 = b171_2 := rfl
theorem B171_23 : blk 171 23 = b171_23 := rfl
theorem B171_61 : blk 171 61 = b171_61 := rfl
theorem B171_62 : blk 171 62 = b171_62 := rfl
theorem B171_70 : blk 171 70 = b171_70 := rfl
theorem B171_76 : blk 171 76 = b171_76 := rfl
theorem B172_0 : blk 172 0 = b172_0 := rfl
theorem B172_4 : blk 172 4 = b172_4 := rfl
theorem B172_24 : blk 172 24 = b172_24 := rfl
theorem B173_0 : blk 173 0 = b173_0 := rfl
theorem B173_9 : blk 173 9 = b173_9 := rfl
theorem B173_20 : blk 173 20 = b173_20 := rfl
theorem B173_41 : blk 173 41 = b173_41 := rfl
theorem B173_52 : blk 173 52 = b173_52 := rfl
theorem B173_86 : blk 173 86 = b173_86 := rfl
theorem B173_87 : blk 173 87 = b173_87 := rfl
theorem B173_96 : blk 173 96 = b173_96 := rfl
theorem B173_119 : blk 173 119 = b173_119 := rfl
theorem B173_120 : blk 173 120 = b173_120 := rfl
theorem B173_127 : blk 173 127 = b173_127 := rfl
theorem B174_0 : blk 174 0 = b174_0 := rfl
theorem B174_12 : blk 174 12 = b174_12 := rfl
theorem B174_23 : blk 174 23 = b174_23 := rfl
theorem B174_36 : blk 174 36 = b174_36 := rfl
theorem B174_52 : blk 174 52 = b174_52 := rfl
theorem B174_86 : blk 174 86 = b174_86 := rfl
theorem B174_87 : blk 174 87 = b174_87 := rfl
theorem B174_96 : blk 174 96 = b174_96 := rfl
theorem B174_106 : blk 174 106 = b174_106 := rfl
theorem B175_0 : blk 175 0 = b175_0 := rfl
theorem B175_3 : blk 175 3 = b175_3 := rfl
theorem B175_35 : blk 175 35 = b175_35 := rfl
theorem B175_427 : blk 175 427 = b175_427 := rfl
theorem B175_428 : blk 175 428 = b175_428 := rfl
theorem B175_483 : blk 175 483 = b175_483 := rfl
theorem B175_484 : blk 175 484 = b175_484 := rfl
theorem B175_489 : blk 175 489 = b175_489 := rfl
theorem B175_652 : blk 175 652 = b175_652 := rfl
theorem B175_653 : blk 175 653 = b175_653 := rfl
theorem B175_661 : blk 175 661 = b175_661 := rfl
theorem B176_0 : blk 176 0 = b176_0 := rfl
theorem B176_6 : blk 176 6 = b176_6 := rfl
theorem B176_63 : blk 176 63 = b176_63 := rfl
theorem B176_67 : blk 176 67 = b176_67 := rfl
theorem B176_68 : blk 176 68 = b176_68 := rfl
theorem B176_76 : blk 176 76 = b176_76 := rfl
theorem B177_0 : blk 177 0 = b177_0 := rfl
theorem B177_14 : blk 177 14 = b177_14 := rfl
theorem B177_16 : blk 177 16 = b177_16 := rfl
theorem B177_32 : blk 177 32 = b177_32 := rfl
theorem B177_35 : blk 177 35 = b177_35 := rfl
theorem B177_55 : blk 177 55 = b177_55 := rfl
theorem B177_59 : blk 177 59 = b177_59 := rfl
theorem B177_60 : blk 177 60 = b177_60 := rfl
theorem B178_0 : blk 178 0 = b178_0 := rfl
theorem B178_14 : blk 178 14 = b178_14 := rfl
theorem B178_16 : blk 178 16 = b178_16 := rfl
theorem B178_32 : blk 178 32 = b178_32 := rfl
theorem B178_35 : blk 178 35 = b178_35 := rfl
theorem B178_49 : blk 178 49 = b178_49 := rfl
theorem B178_50 : blk 178 50 = b178_50 := rfl
theorem B179_0 : blk 179 0 = b179_0 := rfl
theorem B179_14 : blk 179 14 = b179_14 := rfl
theorem B179_16 : blk 179 16 = b179_16 := rfl
theorem B179_32 : blk 179 32 = b179_32 := rfl
theorem B179_35 : blk 179 35 = b179_35 := rfl
theorem B179_40 : blk 179 40 = b179_40 := rfl
theorem B179_97 : blk 179 97 = b179_97 := rfl
theorem B179_98 : blk 179 98 = b179_98 := rfl
theorem B179_106 : blk 179 106 = b179_106 := rfl
theorem B180_0 : blk 180 0 = b180_0 := rfl
theorem B181_0 : blk 181 0 = b181_0 := rfl
theorem B181_12 : blk 181 12 = b181_12 := rfl
theorem B181_21 : blk 181 21 = b181_21 := rfl
theorem B181_67 : blk 181 67 = b181_67 := rfl
theorem B181_69 : blk 181 69 = b181_69 := rfl
theorem B181_96 : blk 181 96 = b181_96 := rfl
theorem B182_0 : blk 182 0 = b182_0 := rfl
theorem B182_12 : blk 182 12 = b182_12 := rfl
theorem B182_24 : blk 182 24 = b182_24 := rfl
theorem B182_26 : blk 182 26 = b182_26 := rfl
theorem B182_72 : blk 182 72 = b182_72 := rfl
theorem B182_74 : blk 182 74 = b182_74 := rfl
theorem B182_101 : blk 182 101 = b182_101 := rfl
theorem B183_0 : blk 183 0 = b183_0 := rfl
theorem B183_4 : blk 183 4 = b183_4 := rfl
theorem B183_22 : blk 183 22 = b183_22 := rfl
theorem B183_23 : blk 183 23 = b183_23 := rfl
theorem B183_31 : blk 183 31 = b183_31 := rfl
theorem B183_42 : blk 183 42 = b183_42 := rfl
theorem B183_54 : blk 183 54 = b183_54 := rfl
theorem B183_63 : blk 183 63 = b183_63 := rfl
theorem B183_65 : blk 183 65 = b183_65 := rfl
theorem B184_0 : blk 184 0 = b184_0 := rfl
theorem B184_18 : blk 184 18 = b184_18 := rfl
theorem B184_172 : blk 184 172 = b184_172 := rfl
theorem B184_235 : blk 184 235 = b184_235 := rfl
theorem B184_248 : blk 184 248 = b184_248 := rfl
theorem B184_261 : blk 184 261 = b184_261 := rfl
theorem B184_284 : blk 184 284 = b184_284 := rfl
theorem B184_327 : blk 184 327 = b184_327 := rfl
theorem B184_380 : blk 184 380 = b184_380 := rfl
theorem B184_433 : blk 184 433 = b184_433 := rfl
theorem B184_466 : blk 184 466 = b184_466 := rfl
theorem B184_499 : blk 184 499 = b184_499 := rfl
theorem B184_542 : blk 184 542 = b184_542 := rfl
theorem B184_565 : blk 184 565 = b184_565 := rfl
theorem B184_598 : blk 184 598 = b184_598 := rfl
theorem B184_641 : blk 184 641 = b184_641 := rfl
theorem B184_674 : blk 184 674 = b184_674 := rfl
theorem B184_717 : blk 184 717 = b184_717 := rfl
theorem B184_750 : blk 184 750 = b184_750 := rfl
theorem B184_784 : blk 184 784 = b184_784 := rfl
theorem B184_817 : blk 184 817 = b184_817 := rfl
theorem B184_860 : blk 184 860 = b184_860 := rfl
theorem B184_903 : blk 184 903 = b184_903 := rfl
theorem B184_936 : blk 184 936 = b184_936 := rfl
theorem B184_959 : blk 184 959 = b184_959 := rfl
theorem B184_1002 : blk 184 1002 = b184_1002 := rfl
theorem B184_1025 : blk 184 1025 = b184_1025 := rfl
theorem B184_1068 : blk 184 1068 = b184_1068 := rfl
theorem B184_1101 : blk 184 1101 = b184_1101 := rfl
theorem B184_1134 : blk 184 1134 = b184_1134 := rfl
theorem B184_1167 : blk 184 1167 = b184_1167 := rfl
theorem B184_1190 : blk 184 1190 = b184_1190 := rfl
theorem B184_1213 : blk 184 1213 = b184_1213 := rfl
theorem B184_1236 : blk 184 1236 = b184_1236 := rfl
theorem B184_1242 : blk 184 1242 = b184_1242 := rfl
theorem B185_0 : blk 185 0 = b185_0 := rfl
theorem B186_0 : blk 186 0 = b186_0 := rfl
theorem B186_9 : blk 186 9 = b186_9 := rfl
theorem B186_10 : blk 186 10 = b186_10 := rfl
theorem B187_0 : blk 187 0 = b187_0 := rfl
theorem B187_9 : blk 187 9 = b187_9 := rfl
theorem B187_10 : blk 187 10 = b187_10 := rfl
theorem B188_0 : blk 188 0 = b188_0 := rfl
theorem B188_9 : blk 188 9 = b188_9 := rfl
theorem B188_10 : blk 188 10 = b188_10 := rfl
def mlT : List Nat := [1, 5, 6, 4, 9, 3, 1, 1, 1, 5, 1, 5, 6, 4, 15, 1, 2, 4, 3, 5, 3, 2, 3, 4, 4, 2, 2, 4, 4, 4, 5, 3, 4, 7, 1, 6, 4, 4, 1, 3, 4, 7, 11, 2, 5, 5, 6, 3, 5, 4, 3, 5, 1, 5, 3, 3, 4, 4, 5, 1, 5, 2, 2, 3, 1, 3, 2, 4, 2, 1, 2, 4, 6, 5, 3, 4, 4, 2, 3, 4, 3, 4, 3, 7, 3, 4, 4, 3, 2, 4, 2, 4, 5, 4, 7, 3, 3, 2, 1, 2, 2, 3, 4, 3, 2, 3, 7, 7, 3, 3, 3, 1, 6, 5, 2, 1, 5, 3, 1, 1, 3, 2, 3, 4, 5, 6, 6, 4, 6, 5, 3, 4, 4, 10, 1, 10, 2, 6, 2, 1, 5, 6, 4, 23, 4, 3, 8, 4, 8, 3, 9, 7, 3, 4, 9, 4, 16, 12, 8, 4, 4, 4, 6, 12, 5, 7, 6, 4, 5, 6, 4, 4, 3, 7, 8, 20, 6, 3, 3, 5, 1, 3, 3, 4, 4, 1, 1, 2, 2]
def clT : List Nat := [0, 0, 0, 0, 0, 0, 0, 0, 0, 0, 1, 1, 1, 1, 1, 2, 2, 2, 2, 2, 2, 2, 2, 2, 2, 2, 2, 2, 2, 2, 2, 2, 2, 2, 2, 2, 2, 2, 2, 2, 2, 2, 2, 2, 2, 2, 2, 2, 2, 2, 2, 2, 3, 3, 3, 3, 3, 3, 3, 4, 4, 4, 4, 4, 4, 4, 5, 5, 5, 5, 5, 5, 5, 5, 5, 5, 5, 5, 5, 5, 5, 5, 5, 5, 5, 5, 5, 5, 5, 5, 5, 5, 5, 5, 5, 5, 5, 5, 5, 5, 5, 5, 5, 5, 5, 5, 5, 5, 5, 5, 5, 6, 6, 6, 6, 6, 6, 6, 6, 6, 6, 6, 6, 6, 6, 6, 6, 6, 6, 6, 6, 6, 6, 6, 6, 6, 6, 6, 6, 6, 6, 6, 6, 6, 6, 6, 6, 6, 6, 6, 6, 6, 6, 6, 6, 6, 6, 6, 6, 6, 6, 6, 6, 6, 6, 6, 6, 6, 6, 6, 6, 6, 6, 6, 6, 6, 6, 6, 6, 6, 6, 6, 6, 6, 7, 8, 9, 9, 9]
/-- 0 static, 1 virtual, 2 constructor -/
def kdT : List Nat := [2, 1, 1, 1, 1, 0, 1, 1, 1, 1, 2, 1, 1, 1, 0, 2, 1, 1, 1, 1, 1, 1, 1, 1, 1, 1, 1, 1, 1, 1, 1, 1, 1, 1, 1, 1, 1, 1, 1, 1, 1, 1, 1, 1, 1, 1, 1, 1, 1, 1, 1, 1, 2, 1, 1, 1, 1, 1, 1, 2, 1, 1, 1, 1, 0, 1, 2, 1, 1, 1, 1, 1, 1, 1, 1, 1, 1, 1, 1, 1, 1, 1, 1, 1, 1, 1, 1, 1, 1, 1, 1, 1, 1, 1, 1, 1, 1, 1, 0, 0, 0, 1, 1, 1, 0, 1, 0, 1, 1, 1, 0, 2, 0, 1, 1, 0, 1, 1, 1, 0, 1, 0, 1, 1, 1, 1, 1, 1, 1, 1, 1, 1, 1, 1, 0, 1, 1, 1, 1, 0, 0, 1, 1, 1, 1, 1, 1, 1, 1, 1, 1, 1, 1, 1, 1, 1, 1, 1, 1, 1, 1, 1, 1, 1, 1, 1, 0, 1, 1, 1, 1, 1, 0, 1, 1, 1, 1, 1, 1, 1, 1, 1, 1, 1, 0, 0, 0, 0, 0]
/-- 0 void, 1 int, 2 boolean, 3 long -/
def rtT : List Nat := [0, 0, 0, 0, 0, 3, 1, 1, 1, 1, 0, 2, 0, 2, 2, 0, 2, 1, 0, 0, 0, 0, 0, 2, 0, 1, 1, 1, 1, 2, 2, 2, 2, 2, 1, 1, 1, 1, 1, 1, 1, 1, 1, 2, 0, 1, 2, 2, 1, 2, 1, 1, 0, 0, 2, 1, 1, 1, 1, 0, 0, 1, 2, 2, 1, 0, 0, 1, 1, 1, 1, 1, 1, 1, 1, 1, 1, 1, 1, 1, 1, 1, 1, 3, 1, 1, 1, 1, 1, 1, 1, 1, 1, 1, 1, 1, 1, 1, 2, 2, 2, 2, 2, 1, 1, 1, 1, 1, 1, 1, 1, 0, 2, 1, 1, 1, 2, 1, 1, 2, 2, 2, 1, 1, 1, 1, 1, 1, 1, 1, 1, 1, 2, 2, 1, 2, 1, 1, 1, 1, 1, 1, 1, 1, 1, 1, 1, 1, 1, 3, 1, 1, 1, 0, 0, 1, 2, 2, 2, 2, 1, 1, 1, 0, 1, 1, 2, 1, 1, 1, 1, 0, 1, 1, 1, 2, 2, 1, 1, 1, 1, 1, 1, 1, 2, 1, 1, 1, 1]
def naT : List Nat := [1, 3, 4, 4, 4, 2, 1, 1, 1, 2, 1, 4, 4, 3, 3, 1, 2, 3, 2, 4, 2, 1, 1, 3, 3, 2, 2, 4, 4, 4, 5, 1, 2, 3, 1, 3, 3, 1, 1, 2, 2, 3, 3, 1, 2, 2, 3, 3, 3, 3, 3, 3, 1, 2, 3, 1, 2, 1, 3, 1, 3, 1, 2, 2, 1, 2, 1, 3, 1, 1, 2, 4, 5, 5, 3, 3, 4, 2, 3, 4, 3, 4, 3, 3, 3, 4, 4, 3, 2, 4, 2, 4, 3, 3, 3, 2, 2, 2, 1, 2, 2, 3, 4, 3, 2, 3, 2, 2, 1, 1, 2, 1, 3, 3, 1, 1, 3, 1, 1, 1, 3, 2, 2, 4, 4, 5, 5, 3, 3, 4, 3, 4, 4, 5, 1, 2, 2, 4, 2, 1, 2, 2, 3, 5, 4, 3, 4, 4, 3, 3, 3, 3, 3, 3, 5, 4, 4, 4, 5, 4, 4, 4, 2, 2, 3, 2, 2, 3, 4, 2, 4, 2, 1, 2, 4, 6, 4, 3, 3, 3, 1, 2, 2, 2, 1, 1, 1, 2, 2]
def rkT : List Nat := [1, 2, 1, 1, 0, 0, 0, 1, 1, 1, 2, 2, 1, 1, 0, 1, 0, 0, 0, 0, 0, 0, 0, 1, 0, 0, 0, 0, 0, 1, 1, 3, 1, 2, 1, 0, 2, 1, 2, 2, 3, 1, 1, 1, 3, 2, 3, 3, 2, 2, 2, 0, 1, 4, 0, 1, 0, 1, 1, 1, 0, 2, 1, 0, 0, 1, 3, 1, 0, 3, 3, 2, 2, 1, 2, 1, 2, 4, 6, 4, 4, 2, 3, 4, 4, 4, 4, 5, 5, 4, 5, 5, 5, 5, 5, 1, 1, 5, 0, 0, 0, 1, 2, 4, 4, 5, 2, 3, 0, 4, 0, 1, 0, 1, 0, 1, 0, 2, 3, 1, 2, 1, 3, 3, 0, 3, 2, 3, 2, 2, 0, 0, 0, 1, 0, 2, 3, 1, 2, 0, 1, 2, 3, 1, 3, 4, 0, 2, 2, 3, 2, 1, 0, 0, 1, 0, 2, 2, 1, 3, 4, 4, 3, 1, 4, 4, 0, 5, 3, 4, 4, 3, 0, 4, 4, 1, 2, 3, 3, 3, 0, 1, 1, 3, 7, 0, 0, 0, 0]
def lrT : List Nat := [24, 53, 28, 22, 0, 0, 0, 20, 20, 22, 44, 57, 24, 34, 0, 24, 0, 0, 0, 0, 0, 0, 0, 21, 0, 0, 0, 0, 0, 23, 23, 72, 23, 46, 25, 0, 45, 22, 45, 45, 67, 21, 21, 23, 70, 46, 73, 73, 46, 47, 51, 0, 24, 98, 0, 20, 0, 23, 23, 24, 0, 43, 22, 0, 0, 20, 64, 24, 0, 64, 64, 43, 43, 24, 43, 22, 44, 94, 144, 94, 94, 47, 73, 94, 94, 98, 95, 122, 122, 95, 122, 122, 116, 116, 116, 22, 22, 116, 0, 0, 0, 21, 43, 94, 90, 122, 47, 68, 0, 94, 0, 24, 0, 25, 0, 25, 0, 45, 67, 25, 45, 25, 67, 67, 0, 67, 46, 67, 45, 46, 0, 0, 0, 23, 0, 52, 81, 23, 48, 0, 20, 44, 69, 22, 81, 92, 0, 45, 45, 81, 49, 23, 0, 0, 23, 0, 64, 64, 23, 67, 99, 95, 95, 22, 120, 120, 0, 146, 69, 120, 95, 99, 0, 122, 122, 23, 62, 87, 87, 81, 0, 25, 25, 81, 169, 0, 0, 0, 0]

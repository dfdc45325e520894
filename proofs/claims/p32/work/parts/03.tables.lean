/-! printed by tools/gen.py: the methods, their instructions, their links -/
abbrev ri_CD : Type := List (List (Option (Instr × Nat × Value)))
abbrev ri_MT : Type := MethodName × ByteArray × Nat × Option FieldType × Nat × Nat × Nat × List Nat × ri_CD
def rc_0 : ri_CD := [[some (.aload_n 0, 1, .null), some (.getfield 24, 3, .null), none, none, some (.sipush 160, 3, .int (160)), none, none, some (.if_icmp .lt 6, 3, .retAddr 13), none, none, some (.bipush (-4), 2, .int (-4)), none, some (.ireturn, 1, .null), some (.aload_n 0, 1, .null), some (.getfield 9, 3, .null), none],
  [none, some (.aload_n 0, 1, .null), some (.getfield 24, 3, .null), none, none, some (.iload_n 1, 1, .null), some (.invokestatic 41, 3, .null), none, none, some (.aload_n 0, 1, .null), some (.dup, 1, .null), some (.getfield 24, 3, .null), none, none, some (.iconst 1, 1, .int (1)), some (.iadd, 1, .null)],
  [some (.putfield 24, 3, .null), none, none, some (.aload_n 0, 1, .null), some (.getfield 24, 3, .null), none, none, some (.ireturn, 1, .null)]]
abbrev mX0_take : Nat := 0
def rc_1 : ri_CD := [[some (.aload_n 0, 1, .null), some (.invokevirtual 45, 3, .null), none, none, some (.aload_n 0, 1, .null), some (.iconst 0, 1, .int (0)), some (.putfield 24, 3, .null), none, none, some (.aload_n 0, 1, .null), some (.iconst 0, 1, .int (0)), some (.putfield 31, 3, .null), none, none, some (.aload_n 0, 1, .null), some (.iconst (-1), 1, .int (-1))],
  [some (.putfield 34, 3, .null), none, none, some (.aload_n 0, 1, .null), some (.getfield 37, 3, .null), none, none, some (.invokevirtual 48, 3, .null), none, none, some (.iconst 0, 1, .int (0)), some (.istore_n 1, 1, .null), some (.iload_n 1, 1, .null), some (.iconst 3, 1, .int (3)), some (.if_icmp .ge 35, 3, .retAddr 65), none],
  [none, some (.aload_n 0, 1, .null), some (.iconst 3, 1, .int (3)), some (.iload_n 1, 1, .null), some (.iadd, 1, .null), some (.invokevirtual 53, 3, .null), none, none, some (.aload_n 0, 1, .null), some (.iconst 0, 1, .int (0)), some (.invokevirtual 57, 3, .null), none, none, some (.aload_n 0, 1, .null), some (.bipush 59, 2, .int (59)), none],
  [some (.invokevirtual 53, 3, .null), none, none, some (.aload_n 0, 1, .null), some (.getfield 37, 3, .null), none, none, some (.iload_n 1, 1, .null), some (.invokevirtual 60, 3, .null), none, none, some (.iinc 1 1, 3, .int (1)), none, none, some (.goto (-34), 3, .retAddr 28), none],
  [none, some (.aload_n 0, 1, .null), some (.iconst 0, 1, .int (0)), some (.invokevirtual 53, 3, .null), none, none, some (.aload_n 0, 1, .null), some (.getfield 34, 3, .null), none, none, some (.iconst (-1), 1, .int (-1)), some (.if_icmp .ne 16, 3, .retAddr 91), none, none, some (.aload_n 0, 1, .null), some (.getfield 37, 3, .null)],
  [none, none, some (.dup, 1, .null), some (.getfield 63, 3, .null), none, none, some (.iconst 1, 1, .int (1)), some (.iadd, 1, .null), some (.putfield 63, 3, .null), none, none, some (.aload_n 0, 1, .null), some (.getfield 34, 3, .null), none, none, some (.ireturn, 1, .null)]]
abbrev mX0_readText : Nat := 1
def rc_2 : ri_CD := [[some (.aload_n 0, 1, .null), some (.iconst 0, 1, .int (0)), some (.putfield 28, 3, .null), none, none, some (.iconst 0, 1, .int (0)), some (.istore_n 1, 1, .null), some (.iconst 1, 1, .int (1)), some (.istore_n 2, 1, .null), some (.iconst 0, 1, .int (0)), some (.istore_n 3, 1, .null), some (.iload_n 3, 1, .null), some (.sipush 160, 3, .int (160)), none, none, some (.if_icmp .ge 114, 3, .retAddr 129)],
  [none, none, some (.iload_n 2, 1, .null), some (.ifCond .eq 110, 3, .retAddr 129), none, none, some (.iload_n 1, 1, .null), some (.aload_n 0, 1, .null), some (.getfield 24, 3, .null), none, none, some (.if_icmp .ge 23, 3, .retAddr 50), none, none, some (.aload_n 0, 1, .null), some (.getfield 9, 3, .null)],
  [none, none, some (.iload_n 1, 1, .null), some (.invokestatic 66, 3, .null), none, none, some (.invokestatic 70, 3, .null), none, none, some (.ifCond .eq 9, 3, .retAddr 50), none, none, some (.iinc 1 1, 3, .int (1)), none, none, some (.goto (-25), 3, .retAddr 22)],
  [none, none, some (.iload_n 1, 1, .null), some (.aload_n 0, 1, .null), some (.getfield 24, 3, .null), none, none, some (.if_icmp .ge 7, 3, .retAddr 62), none, none, some (.iconst 1, 1, .int (1)), some (.goto 4, 3, .retAddr 63), none, none, some (.iconst 0, 1, .int (0)), some (.istore_n 2, 1, .null)],
  [some (.iload_n 2, 1, .null), some (.ifCond .eq 58, 3, .retAddr 123), none, none, some (.aload_n 0, 1, .null), some (.iload_n 1, 1, .null), some (.invokevirtual 74, 3, .null), none, none, some (.istore 4, 2, .null), none, some (.aload_n 0, 1, .null), some (.iload_n 1, 1, .null), some (.iload 4, 2, .null), none, some (.invokevirtual 78, 3, .null)],
  [none, none, some (.istore 5, 2, .null), none, some (.aload_n 0, 1, .null), some (.iload 5, 2, .null), none, some (.iload 5, 2, .null), none, some (.iconst 2, 1, .int (2)), some (.if_icmp .ne 13, 3, .retAddr 103), none, none, some (.aload_n 0, 1, .null), some (.iload_n 1, 1, .null), some (.iload 4, 2, .null)],
  [none, some (.invokevirtual 82, 3, .null), none, none, some (.goto 4, 3, .retAddr 104), none, none, some (.iconst 0, 1, .int (0)), some (.iload_n 1, 1, .null), some (.invokevirtual 85, 3, .null), none, none, some (.iload 4, 2, .null), none, some (.istore_n 1, 1, .null), some (.iload 5, 2, .null)],
  [none, some (.iconst 1, 1, .int (1)), some (.if_icmp .eq 7, 3, .retAddr 121), none, none, some (.iconst 1, 1, .int (1)), some (.goto 4, 3, .retAddr 122), none, none, some (.iconst 0, 1, .int (0)), some (.istore_n 2, 1, .null), some (.iinc 3 1, 3, .int (1)), none, none, some (.goto (-115), 3, .retAddr 11), none],
  [none, some (.aload_n 0, 1, .null), some (.iconst 0, 1, .int (0)), some (.iconst 0, 1, .int (0)), some (.aload_n 0, 1, .null), some (.getfield 24, 3, .null), none, none, some (.invokevirtual 85, 3, .null), none, none, some (.return_, 1, .null)]]
abbrev mX0_cut : Nat := 2
def rc_3 : ri_CD := [[some (.aload_n 0, 1, .null), some (.getfield 15, 3, .null), none, none, some (.aload_n 0, 1, .null), some (.getfield 28, 3, .null), none, none, some (.iload_n 1, 1, .null), some (.invokestatic 41, 3, .null), none, none, some (.aload_n 0, 1, .null), some (.getfield 18, 3, .null), none, none],
  [some (.aload_n 0, 1, .null), some (.getfield 28, 3, .null), none, none, some (.iload_n 2, 1, .null), some (.invokestatic 41, 3, .null), none, none, some (.aload_n 0, 1, .null), some (.getfield 21, 3, .null), none, none, some (.aload_n 0, 1, .null), some (.getfield 28, 3, .null), none, none],
  [some (.iload_n 3, 1, .null), some (.invokestatic 41, 3, .null), none, none, some (.aload_n 0, 1, .null), some (.dup, 1, .null), some (.getfield 28, 3, .null), none, none, some (.iconst 1, 1, .int (1)), some (.iadd, 1, .null), some (.putfield 28, 3, .null), none, none, some (.return_, 1, .null)]]
abbrev mX0_add : Nat := 3
def rc_4 : ri_CD := [[some (.aload_n 0, 1, .null), some (.getfield 9, 3, .null), none, none, some (.iload_n 1, 1, .null), some (.invokestatic 66, 3, .null), none, none, some (.istore_n 2, 1, .null), some (.iload_n 1, 1, .null), some (.iconst 1, 1, .int (1)), some (.iadd, 1, .null), some (.istore_n 3, 1, .null), some (.iload_n 3, 1, .null), some (.aload_n 0, 1, .null), some (.getfield 24, 3, .null)],
  [none, none, some (.if_icmp .ge 51, 3, .retAddr 69), none, none, some (.iload_n 2, 1, .null), some (.invokestatic 89, 3, .null), none, none, some (.ifCond .eq 17, 3, .retAddr 42), none, none, some (.aload_n 0, 1, .null), some (.getfield 9, 3, .null), none, none],
  [some (.iload_n 3, 1, .null), some (.invokestatic 66, 3, .null), none, none, some (.invokestatic 89, 3, .null), none, none, some (.ifCond .ne 24, 3, .retAddr 63), none, none, some (.iload_n 2, 1, .null), some (.invokestatic 92, 3, .null), none, none, some (.ifCond .eq 23, 3, .retAddr 69), none],
  [none, some (.aload_n 0, 1, .null), some (.getfield 9, 3, .null), none, none, some (.iload_n 3, 1, .null), some (.invokestatic 66, 3, .null), none, none, some (.invokestatic 92, 3, .null), none, none, some (.ifCond .eq 9, 3, .retAddr 69), none, none, some (.iinc 3 1, 3, .int (1))],
  [none, none, some (.goto (-53), 3, .retAddr 13), none, none, some (.iload_n 3, 1, .null), some (.ireturn, 1, .null)]]
abbrev mX0_tokenEnd : Nat := 4
def rc_5 : ri_CD := [[some (.aload_n 0, 1, .null), some (.getfield 9, 3, .null), none, none, some (.iload_n 1, 1, .null), some (.invokestatic 66, 3, .null), none, none, some (.istore_n 3, 1, .null), some (.iload_n 3, 1, .null), some (.invokestatic 89, 3, .null), none, none, some (.ifCond .eq 10, 3, .retAddr 23), none, none],
  [some (.aload_n 0, 1, .null), some (.iload_n 1, 1, .null), some (.iload_n 2, 1, .null), some (.invokevirtual 95, 3, .null), none, none, some (.ireturn, 1, .null), some (.iload_n 3, 1, .null), some (.invokestatic 92, 3, .null), none, none, some (.ifCond .eq 16, 3, .retAddr 43), none, none, some (.iload_n 2, 1, .null), some (.iload_n 1, 1, .null)],
  [some (.isub, 1, .null), some (.iconst 4, 1, .int (4)), some (.if_icmp .le 7, 3, .retAddr 41), none, none, some (.iconst 1, 1, .int (1)), some (.goto 4, 3, .retAddr 42), none, none, some (.iconst 2, 1, .int (2)), some (.ireturn, 1, .null), some (.iload_n 3, 1, .null), some (.tableswitch 106 40 61 #[104, 104, 104, 104, 106, 104, 106, 106, 106, 106, 106, 106, 106, 106, 106, 106, 106, 106, 106, 104, 104, 104], 104, .null), none, none, none],
  [none, none, none, none, none, none, none, none, none, none, none, none, none, none, none, none],
  [none, none, none, none, none, none, none, none, none, none, none, none, none, none, none, none],
  [none, none, none, none, none, none, none, none, none, none, none, none, none, none, none, none],
  [none, none, none, none, none, none, none, none, none, none, none, none, none, none, none, none],
  [none, none, none, none, none, none, none, none, none, none, none, none, none, none, none, none],
  [none, none, none, none, none, none, none, none, none, none, none, none, none, none, none, none],
  [none, none, none, none, some (.iload_n 3, 1, .null), some (.ireturn, 1, .null), some (.iconst 1, 1, .int (1)), some (.ireturn, 1, .null)]]
abbrev mX0_sortOf : Nat := 5
def rc_6 : ri_CD := [[some (.aload_n 0, 1, .null), some (.ldc 98, 2, .null), none, some (.iload_n 1, 1, .null), some (.iload_n 2, 1, .null), some (.invokevirtual 100, 3, .null), none, none, some (.ifCond .eq 7, 3, .retAddr 15), none, none, some (.iconst 3, 1, .int (3)), some (.goto 82, 3, .retAddr 94), none, none, some (.aload_n 0, 1, .null)],
  [some (.ldc 104, 2, .null), none, some (.iload_n 1, 1, .null), some (.iload_n 2, 1, .null), some (.invokevirtual 100, 3, .null), none, none, some (.ifCond .eq 7, 3, .retAddr 30), none, none, some (.iconst 4, 1, .int (4)), some (.goto 67, 3, .retAddr 94), none, none, some (.aload_n 0, 1, .null), some (.ldc 106, 2, .null)],
  [none, some (.iload_n 1, 1, .null), some (.iload_n 2, 1, .null), some (.invokevirtual 100, 3, .null), none, none, some (.ifCond .eq 7, 3, .retAddr 45), none, none, some (.iconst 5, 1, .int (5)), some (.goto 52, 3, .retAddr 94), none, none, some (.aload_n 0, 1, .null), some (.ldc 108, 2, .null), none],
  [some (.iload_n 1, 1, .null), some (.iload_n 2, 1, .null), some (.invokevirtual 100, 3, .null), none, none, some (.ifCond .eq 8, 3, .retAddr 61), none, none, some (.bipush 6, 2, .int (6)), none, some (.goto 36, 3, .retAddr 94), none, none, some (.aload_n 0, 1, .null), some (.ldc 110, 2, .null), none],
  [some (.iload_n 1, 1, .null), some (.iload_n 2, 1, .null), some (.invokevirtual 100, 3, .null), none, none, some (.ifCond .eq 8, 3, .retAddr 77), none, none, some (.bipush 7, 2, .int (7)), none, some (.goto 20, 3, .retAddr 94), none, none, some (.aload_n 0, 1, .null), some (.ldc 112, 2, .null), none],
  [some (.iload_n 1, 1, .null), some (.iload_n 2, 1, .null), some (.invokevirtual 100, 3, .null), none, none, some (.ifCond .eq 8, 3, .retAddr 93), none, none, some (.bipush 8, 2, .int (8)), none, some (.goto 4, 3, .retAddr 94), none, none, some (.iconst 1, 1, .int (1)), some (.istore_n 3, 1, .null), some (.iload_n 3, 1, .null)],
  [some (.iconst 1, 1, .int (1)), some (.if_icmp .eq 5, 3, .retAddr 102), none, none, some (.iload_n 3, 1, .null), some (.ireturn, 1, .null), some (.aload_n 0, 1, .null), some (.ldc 114, 2, .null), none, some (.iload_n 1, 1, .null), some (.iload_n 2, 1, .null), some (.invokevirtual 100, 3, .null), none, none, some (.ifCond .eq 8, 3, .retAddr 118), none],
  [none, some (.bipush 10, 2, .int (10)), none, some (.goto 84, 3, .retAddr 199), none, none, some (.aload_n 0, 1, .null), some (.ldc 116, 2, .null), none, some (.iload_n 1, 1, .null), some (.iload_n 2, 1, .null), some (.invokevirtual 100, 3, .null), none, none, some (.ifCond .eq 8, 3, .retAddr 134), none],
  [none, some (.bipush 11, 2, .int (11)), none, some (.goto 68, 3, .retAddr 199), none, none, some (.aload_n 0, 1, .null), some (.ldc 118, 2, .null), none, some (.iload_n 1, 1, .null), some (.iload_n 2, 1, .null), some (.invokevirtual 100, 3, .null), none, none, some (.ifCond .eq 8, 3, .retAddr 150), none],
  [none, some (.bipush 12, 2, .int (12)), none, some (.goto 52, 3, .retAddr 199), none, none, some (.aload_n 0, 1, .null), some (.ldc 120, 2, .null), none, some (.iload_n 1, 1, .null), some (.iload_n 2, 1, .null), some (.invokevirtual 100, 3, .null), none, none, some (.ifCond .eq 8, 3, .retAddr 166), none],
  [none, some (.bipush 13, 2, .int (13)), none, some (.goto 36, 3, .retAddr 199), none, none, some (.aload_n 0, 1, .null), some (.ldc 122, 2, .null), none, some (.iload_n 1, 1, .null), some (.iload_n 2, 1, .null), some (.invokevirtual 100, 3, .null), none, none, some (.ifCond .eq 8, 3, .retAddr 182), none],
  [none, some (.bipush 14, 2, .int (14)), none, some (.goto 20, 3, .retAddr 199), none, none, some (.aload_n 0, 1, .null), some (.ldc 124, 2, .null), none, some (.iload_n 1, 1, .null), some (.iload_n 2, 1, .null), some (.invokevirtual 100, 3, .null), none, none, some (.ifCond .eq 8, 3, .retAddr 198), none],
  [none, some (.bipush 15, 2, .int (15)), none, some (.goto 4, 3, .retAddr 199), none, none, some (.iconst 1, 1, .int (1)), some (.ireturn, 1, .null)]]
abbrev mX0_wordSort : Nat := 6
def rc_7 : ri_CD := [[some (.iload_n 3, 1, .null), some (.iload_n 2, 1, .null), some (.isub, 1, .null), some (.aload_n 1, 1, .null), some (.invokevirtual 126, 3, .null), none, none, some (.if_icmp .eq 5, 3, .retAddr 12), none, none, some (.iconst 0, 1, .int (0)), some (.ireturn, 1, .null), some (.iconst 0, 1, .int (0)), some (.istore 4, 2, .null), none, some (.iload 4, 2, .null)],
  [none, some (.aload_n 1, 1, .null), some (.invokevirtual 126, 3, .null), none, none, some (.if_icmp .ge 31, 3, .retAddr 52), none, none, some (.aload_n 0, 1, .null), some (.getfield 9, 3, .null), none, none, some (.iload_n 2, 1, .null), some (.iload 4, 2, .null), none, some (.iadd, 1, .null)],
  [some (.invokestatic 66, 3, .null), none, none, some (.aload_n 1, 1, .null), some (.iload 4, 2, .null), none, some (.invokevirtual 132, 3, .null), none, none, some (.if_icmp .eq 5, 3, .retAddr 46), none, none, some (.iconst 0, 1, .int (0)), some (.ireturn, 1, .null), some (.iinc 4 1, 3, .int (1)), none],
  [none, some (.goto (-34), 3, .retAddr 15), none, none, some (.iconst 1, 1, .int (1)), some (.ireturn, 1, .null)]]
abbrev mX0_spells : Nat := 7
def rc_8 : ri_CD := [[some (.iconst 0, 1, .int (0)), some (.istore_n 3, 1, .null), some (.iload_n 1, 1, .null), some (.istore 4, 2, .null), none, some (.iload 4, 2, .null), none, some (.iload_n 2, 1, .null), some (.if_icmp .ge 27, 3, .retAddr 35), none, none, some (.iload_n 3, 1, .null), some (.bipush 10, 2, .int (10)), none, some (.imul, 1, .null), some (.aload_n 0, 1, .null)],
  [some (.getfield 9, 3, .null), none, none, some (.iload 4, 2, .null), none, some (.invokestatic 66, 3, .null), none, none, some (.iadd, 1, .null), some (.bipush 48, 2, .int (48)), none, some (.isub, 1, .null), some (.istore_n 3, 1, .null), some (.iinc 4 1, 3, .int (1)), none, none],
  [some (.goto (-27), 3, .retAddr 5), none, none, some (.iload_n 3, 1, .null), some (.ireturn, 1, .null)]]
abbrev mX0_numberOf : Nat := 8
def rc_9 : ri_CD := [[some (.iload_n 0, 1, .null), some (.bipush 32, 2, .int (32)), none, some (.if_icmp .eq 9, 3, .retAddr 12), none, none, some (.iload_n 0, 1, .null), some (.bipush 10, 2, .int (10)), none, some (.if_icmp .ne 7, 3, .retAddr 16), none, none, some (.iconst 1, 1, .int (1)), some (.goto 4, 3, .retAddr 17), none, none],
  [some (.iconst 0, 1, .int (0)), some (.ireturn, 1, .null)]]
abbrev mX0_isBlank : Nat := 9
def rc_10 : ri_CD := [[some (.iload_n 0, 1, .null), some (.bipush 97, 2, .int (97)), none, some (.if_icmp .lt 13, 3, .retAddr 16), none, none, some (.iload_n 0, 1, .null), some (.bipush 122, 2, .int (122)), none, some (.if_icmp .gt 7, 3, .retAddr 16), none, none, some (.iconst 1, 1, .int (1)), some (.goto 4, 3, .retAddr 17), none, none],
  [some (.iconst 0, 1, .int (0)), some (.ireturn, 1, .null)]]
abbrev mX0_isLetter : Nat := 10
def rc_11 : ri_CD := [[some (.iload_n 0, 1, .null), some (.bipush 48, 2, .int (48)), none, some (.if_icmp .lt 13, 3, .retAddr 16), none, none, some (.iload_n 0, 1, .null), some (.bipush 57, 2, .int (57)), none, some (.if_icmp .gt 7, 3, .retAddr 16), none, none, some (.iconst 1, 1, .int (1)), some (.goto 4, 3, .retAddr 17), none, none],
  [some (.iconst 0, 1, .int (0)), some (.ireturn, 1, .null)]]
abbrev mX0_isDigit : Nat := 11
def rc_12 : ri_CD := [[some (.aload_n 0, 1, .null), some (.getfield 34, 3, .null), none, none, some (.iconst (-1), 1, .int (-1)), some (.if_icmp .ne 17, 3, .retAddr 22), none, none, some (.aload_n 0, 1, .null), some (.getfield 15, 3, .null), none, none, some (.aload_n 0, 1, .null), some (.getfield 31, 3, .null), none, none],
  [some (.invokestatic 66, 3, .null), none, none, some (.goto 4, 3, .retAddr 23), none, none, some (.iconst 1, 1, .int (1)), some (.ireturn, 1, .null)]]
abbrev mX0_token : Nat := 12
def rc_13 : ri_CD := [[some (.aload_n 0, 1, .null), some (.invokevirtual 136, 3, .null), none, none, some (.iload_n 1, 1, .null), some (.if_icmp .eq 5, 3, .retAddr 10), none, none, some (.iconst 0, 1, .int (0)), some (.ireturn, 1, .null), some (.aload_n 0, 1, .null), some (.dup, 1, .null), some (.getfield 31, 3, .null), none, none, some (.iconst 1, 1, .int (1))],
  [some (.iadd, 1, .null), some (.putfield 31, 3, .null), none, none, some (.iconst 1, 1, .int (1)), some (.ireturn, 1, .null)]]
abbrev mX0_may : Nat := 13
def rc_14 : ri_CD := [[some (.aload_n 0, 1, .null), some (.iload_n 1, 1, .null), some (.invokevirtual 139, 3, .null), none, none, some (.ifCond .ne 11, 3, .retAddr 16), none, none, some (.aload_n 0, 1, .null), some (.aload_n 0, 1, .null), some (.getfield 31, 3, .null), none, none, some (.invokevirtual 142, 3, .null), none, none],
  [some (.return_, 1, .null)]]
abbrev mX0_must : Nat := 14
def rc_15 : ri_CD := [[some (.aload_n 0, 1, .null), some (.getfield 34, 3, .null), none, none, some (.iconst (-1), 1, .int (-1)), some (.if_icmp .ne 15, 3, .retAddr 20), none, none, some (.aload_n 0, 1, .null), some (.aload_n 0, 1, .null), some (.getfield 21, 3, .null), none, none, some (.iload_n 1, 1, .null), some (.invokestatic 66, 3, .null), none],
  [none, some (.putfield 34, 3, .null), none, none, some (.return_, 1, .null)]]
abbrev mX0_fails : Nat := 15
def rc_16 : ri_CD := [[some (.aload_n 0, 1, .null), some (.iload_n 1, 1, .null), some (.invokevirtual 145, 3, .null), none, none, some (.iconst 0, 1, .int (0)), some (.istore_n 2, 1, .null), some (.iload_n 2, 1, .null), some (.sipush 160, 3, .int (160)), none, none, some (.if_icmp .ge 32, 3, .retAddr 43), none, none, some (.aload_n 0, 1, .null), some (.bipush 6, 2, .int (6))],
  [none, some (.invokevirtual 139, 3, .null), none, none, some (.ifCond .eq 23, 3, .retAddr 43), none, none, some (.aload_n 0, 1, .null), some (.iload_n 1, 1, .null), some (.invokevirtual 145, 3, .null), none, none, some (.aload_n 0, 1, .null), some (.getfield 37, 3, .null), none, none],
  [some (.bipush (-9), 2, .int (-9)), none, some (.invokevirtual 148, 3, .null), none, none, some (.iinc 2 1, 3, .int (1)), none, none, some (.goto (-33), 3, .retAddr 7), none, none, some (.return_, 1, .null)]]
abbrev mX0_readOr : Nat := 16
def rc_17 : ri_CD := [[some (.aload_n 0, 1, .null), some (.iload_n 1, 1, .null), some (.invokevirtual 151, 3, .null), none, none, some (.iconst 0, 1, .int (0)), some (.istore_n 2, 1, .null), some (.iload_n 2, 1, .null), some (.sipush 160, 3, .int (160)), none, none, some (.if_icmp .ge 32, 3, .retAddr 43), none, none, some (.aload_n 0, 1, .null), some (.bipush 7, 2, .int (7))],
  [none, some (.invokevirtual 139, 3, .null), none, none, some (.ifCond .eq 23, 3, .retAddr 43), none, none, some (.aload_n 0, 1, .null), some (.iload_n 1, 1, .null), some (.invokevirtual 151, 3, .null), none, none, some (.aload_n 0, 1, .null), some (.getfield 37, 3, .null), none, none],
  [some (.bipush (-10), 2, .int (-10)), none, some (.invokevirtual 148, 3, .null), none, none, some (.iinc 2 1, 3, .int (1)), none, none, some (.goto (-33), 3, .retAddr 7), none, none, some (.return_, 1, .null)]]
abbrev mX0_readAnd : Nat := 17
def rc_18 : ri_CD := [[some (.aload_n 0, 1, .null), some (.invokevirtual 136, 3, .null), none, none, some (.bipush 8, 2, .int (8)), none, some (.if_icmp .ne 35, 3, .retAddr 41), none, none, some (.iload_n 1, 1, .null), some (.iconst 5, 1, .int (5)), some (.if_icmp .ge 30, 3, .retAddr 41), none, none, some (.aload_n 0, 1, .null), some (.dup, 1, .null)],
  [some (.getfield 31, 3, .null), none, none, some (.iconst 1, 1, .int (1)), some (.iadd, 1, .null), some (.putfield 31, 3, .null), none, none, some (.aload_n 0, 1, .null), some (.iload_n 1, 1, .null), some (.iconst 1, 1, .int (1)), some (.iadd, 1, .null), some (.invokevirtual 151, 3, .null), none, none, some (.aload_n 0, 1, .null)],
  [some (.getfield 37, 3, .null), none, none, some (.bipush (-8), 2, .int (-8)), none, some (.invokevirtual 148, 3, .null), none, none, some (.return_, 1, .null), some (.aload_n 0, 1, .null), some (.iload_n 1, 1, .null), some (.invokevirtual 154, 3, .null), none, none, some (.aload_n 0, 1, .null), some (.invokevirtual 136, 3, .null)],
  [none, none, some (.bipush 60, 2, .int (60)), none, some (.if_icmp .ne 8, 3, .retAddr 60), none, none, some (.bipush (-11), 2, .int (-11)), none, some (.goto 5, 3, .retAddr 62), none, none, some (.bipush (-12), 2, .int (-12)), none, some (.istore_n 2, 1, .null), some (.aload_n 0, 1, .null)],
  [some (.bipush 60, 2, .int (60)), none, some (.invokevirtual 139, 3, .null), none, none, some (.ifCond .ne 12, 3, .retAddr 81), none, none, some (.aload_n 0, 1, .null), some (.bipush 61, 2, .int (61)), none, some (.invokevirtual 139, 3, .null), none, none, some (.ifCond .eq 16, 3, .retAddr 94), none],
  [none, some (.aload_n 0, 1, .null), some (.iload_n 1, 1, .null), some (.invokevirtual 154, 3, .null), none, none, some (.aload_n 0, 1, .null), some (.getfield 37, 3, .null), none, none, some (.iload_n 2, 1, .null), some (.invokevirtual 148, 3, .null), none, none, some (.return_, 1, .null)]]
abbrev mX0_readNot : Nat := 18
def rc_19 : ri_CD := [[some (.aload_n 0, 1, .null), some (.iload_n 1, 1, .null), some (.invokevirtual 157, 3, .null), none, none, some (.iconst 0, 1, .int (0)), some (.istore_n 2, 1, .null), some (.iload_n 2, 1, .null), some (.sipush 160, 3, .int (160)), none, none, some (.if_icmp .ge 67, 3, .retAddr 78), none, none, some (.aload_n 0, 1, .null), some (.invokevirtual 136, 3, .null)],
  [none, none, some (.bipush 43, 2, .int (43)), none, some (.if_icmp .eq 12, 3, .retAddr 32), none, none, some (.aload_n 0, 1, .null), some (.invokevirtual 136, 3, .null), none, none, some (.bipush 45, 2, .int (45)), none, some (.if_icmp .ne 49, 3, .retAddr 78), none, none],
  [some (.aload_n 0, 1, .null), some (.invokevirtual 136, 3, .null), none, none, some (.bipush 43, 2, .int (43)), none, some (.if_icmp .ne 8, 3, .retAddr 46), none, none, some (.bipush (-13), 2, .int (-13)), none, some (.goto 5, 3, .retAddr 48), none, none, some (.bipush (-14), 2, .int (-14)), none],
  [some (.istore_n 3, 1, .null), some (.aload_n 0, 1, .null), some (.dup, 1, .null), some (.getfield 31, 3, .null), none, none, some (.iconst 1, 1, .int (1)), some (.iadd, 1, .null), some (.putfield 31, 3, .null), none, none, some (.aload_n 0, 1, .null), some (.iload_n 1, 1, .null), some (.invokevirtual 157, 3, .null), none, none],
  [some (.aload_n 0, 1, .null), some (.getfield 37, 3, .null), none, none, some (.iload_n 3, 1, .null), some (.invokevirtual 148, 3, .null), none, none, some (.iinc 2 1, 3, .int (1)), none, none, some (.goto (-68), 3, .retAddr 7), none, none, some (.return_, 1, .null)]]
abbrev mX0_readSum : Nat := 19
def rc_20 : ri_CD := [[some (.aload_n 0, 1, .null), some (.iload_n 1, 1, .null), some (.invokevirtual 160, 3, .null), none, none, some (.iconst 0, 1, .int (0)), some (.istore_n 2, 1, .null), some (.iload_n 2, 1, .null), some (.sipush 160, 3, .int (160)), none, none, some (.if_icmp .ge 32, 3, .retAddr 43), none, none, some (.aload_n 0, 1, .null), some (.bipush 42, 2, .int (42))],
  [none, some (.invokevirtual 139, 3, .null), none, none, some (.ifCond .eq 23, 3, .retAddr 43), none, none, some (.aload_n 0, 1, .null), some (.iload_n 1, 1, .null), some (.invokevirtual 160, 3, .null), none, none, some (.aload_n 0, 1, .null), some (.getfield 37, 3, .null), none, none],
  [some (.bipush (-15), 2, .int (-15)), none, some (.invokevirtual 148, 3, .null), none, none, some (.iinc 2 1, 3, .int (1)), none, none, some (.goto (-33), 3, .retAddr 7), none, none, some (.return_, 1, .null)]]
abbrev mX0_readTerm : Nat := 20
def rc_21 : ri_CD := [[some (.aload_n 0, 1, .null), some (.invokevirtual 136, 3, .null), none, none, some (.istore_n 2, 1, .null), some (.iload_n 2, 1, .null), some (.bipush 40, 2, .int (40)), none, some (.if_icmp .eq 9, 3, .retAddr 17), none, none, some (.iload_n 2, 1, .null), some (.bipush 45, 2, .int (45)), none, some (.if_icmp .ne 29, 3, .retAddr 43), none],
  [none, some (.iload_n 1, 1, .null), some (.iconst 5, 1, .int (5)), some (.if_icmp .ge 24, 3, .retAddr 43), none, none, some (.aload_n 0, 1, .null), some (.dup, 1, .null), some (.getfield 31, 3, .null), none, none, some (.iconst 1, 1, .int (1)), some (.iadd, 1, .null), some (.putfield 31, 3, .null), none, none],
  [some (.aload_n 0, 1, .null), some (.iload_n 2, 1, .null), some (.iload_n 1, 1, .null), some (.iconst 1, 1, .int (1)), some (.iadd, 1, .null), some (.invokevirtual 163, 3, .null), none, none, some (.goto 85, 3, .retAddr 125), none, none, some (.iload_n 2, 1, .null), some (.iconst 2, 1, .int (2)), some (.if_icmp .ne 34, 3, .retAddr 79), none, none],
  [some (.aload_n 0, 1, .null), some (.getfield 37, 3, .null), none, none, some (.aload_n 0, 1, .null), some (.getfield 18, 3, .null), none, none, some (.aload_n 0, 1, .null), some (.getfield 31, 3, .null), none, none, some (.invokestatic 66, 3, .null), none, none, some (.invokevirtual 148, 3, .null)],
  [none, none, some (.aload_n 0, 1, .null), some (.dup, 1, .null), some (.getfield 31, 3, .null), none, none, some (.iconst 1, 1, .int (1)), some (.iadd, 1, .null), some (.putfield 31, 3, .null), none, none, some (.goto 49, 3, .retAddr 125), none, none, some (.iload_n 2, 1, .null)],
  [some (.bipush 10, 2, .int (10)), none, some (.if_icmp .lt 35, 3, .retAddr 117), none, none, some (.iload_n 2, 1, .null), some (.bipush 15, 2, .int (15)), none, some (.if_icmp .gt 29, 3, .retAddr 117), none, none, some (.aload_n 0, 1, .null), some (.getfield 37, 3, .null), none, none, some (.iconst (-1), 1, .int (-1))],
  [some (.iload_n 2, 1, .null), some (.bipush 10, 2, .int (10)), none, some (.isub, 1, .null), some (.isub, 1, .null), some (.invokevirtual 148, 3, .null), none, none, some (.aload_n 0, 1, .null), some (.dup, 1, .null), some (.getfield 31, 3, .null), none, none, some (.iconst 1, 1, .int (1)), some (.iadd, 1, .null), some (.putfield 31, 3, .null)],
  [none, none, some (.goto 11, 3, .retAddr 125), none, none, some (.aload_n 0, 1, .null), some (.aload_n 0, 1, .null), some (.getfield 31, 3, .null), none, none, some (.invokevirtual 142, 3, .null), none, none, some (.return_, 1, .null)]]
abbrev mX0_readOne : Nat := 21
def rc_22 : ri_CD := [[some (.aload_n 0, 1, .null), some (.getfield 15, 3, .null), none, none, some (.iconst (-1), 1, .int (-1)), some (.if_icmp .ne 7, 3, .retAddr 12), none, none, some (.iconst 1, 1, .int (1)), some (.goto 4, 3, .retAddr 13), none, none, some (.iconst 0, 1, .int (0)), some (.ireturn, 1, .null)]]
abbrev mX1_isMissing : Nat := 22
def rc_23 : ri_CD := [[some (.iload_n 0, 1, .null), some (.bipush 32, 2, .int (32)), none, some (.if_icmp .eq 9, 3, .retAddr 12), none, none, some (.iload_n 0, 1, .null), some (.bipush 10, 2, .int (10)), none, some (.if_icmp .ne 7, 3, .retAddr 16), none, none, some (.iconst 1, 1, .int (1)), some (.goto 4, 3, .retAddr 17), none, none],
  [some (.iconst 0, 1, .int (0)), some (.ireturn, 1, .null)]]
abbrev mX1_goes : Nat := 23
def rc_24 : ri_CD := [[some (.aload_n 0, 1, .null), some (.iload_n 1, 1, .null), some (.putfield 15, 3, .null), none, none, some (.aload_n 0, 1, .null), some (.iload_n 2, 1, .null), some (.putfield 19, 3, .null), none, none, some (.aload_n 0, 1, .null), some (.getfield 9, 3, .null), none, none, some (.iconst 0, 1, .int (0)), some (.invokestatic 22, 3, .null)],
  [none, none, some (.return_, 1, .null)]]
abbrev mX1_becomes : Nat := 24
def rc_25 : ri_CD := [[some (.aload_n 0, 1, .null), some (.getfield 9, 3, .null), none, none, some (.iload_n 1, 1, .null), some (.aload_n 0, 1, .null), some (.getfield 15, 3, .null), none, none, some (.ifCond .ne 8, 3, .retAddr 17), none, none, some (.iload_n 2, 1, .null), some (.i2b, 1, .null), some (.goto 17, 3, .retAddr 31), none],
  [none, some (.aload_n 0, 1, .null), some (.getfield 15, 3, .null), none, none, some (.iconst 1, 1, .int (1)), some (.if_icmp .ne 8, 3, .retAddr 30), none, none, some (.iload_n 2, 1, .null), some (.i2s, 1, .null), some (.goto 4, 3, .retAddr 31), none, none, some (.iload_n 2, 1, .null), some (.invokestatic 26, 3, .null)],
  [none, none, some (.return_, 1, .null)]]
abbrev mX1_lay : Nat := 25
def rc_26 : ri_CD := [[some (.iload_n 0, 1, .null), some (.bipush 32, 2, .int (32)), none, some (.if_icmp .eq 9, 3, .retAddr 12), none, none, some (.iload_n 0, 1, .null), some (.bipush 10, 2, .int (10)), none, some (.if_icmp .ne 7, 3, .retAddr 16), none, none, some (.iconst 1, 1, .int (1)), some (.goto 4, 3, .retAddr 17), none, none],
  [some (.iconst 0, 1, .int (0)), some (.ireturn, 1, .null)]]
abbrev mX1_hasSpan : Nat := 26
def rc_27 : ri_CD := [[some (.aload_n 0, 1, .null), some (.aload_n 0, 1, .null), some (.getfield 21, 3, .null), none, none, some (.sipush 160, 3, .int (160)), none, none, some (.imul, 1, .null), some (.putfield 25, 3, .null), none, none, some (.aload_n 0, 1, .null), some (.getfield 15, 3, .null), none, none],
  [some (.aload_n 0, 1, .null), some (.getfield 21, 3, .null), none, none, some (.iconst 4, 1, .int (4)), some (.imul, 1, .null), some (.aload_n 0, 1, .null), some (.getfield 25, 3, .null), none, none, some (.invokestatic 28, 3, .null), none, none, some (.return_, 1, .null)]]
abbrev mX2_begin : Nat := 27
def rc_28 : ri_CD := [[some (.aload_n 0, 1, .null), some (.getfield 9, 3, .null), none, none, some (.aload_n 0, 1, .null), some (.getfield 25, 3, .null), none, none, some (.iload_n 1, 1, .null), some (.invokestatic 28, 3, .null), none, none, some (.aload_n 0, 1, .null), some (.dup, 1, .null), some (.getfield 25, 3, .null), none],
  [none, some (.iconst 1, 1, .int (1)), some (.iadd, 1, .null), some (.putfield 25, 3, .null), none, none, some (.return_, 1, .null)]]
abbrev mX2_write : Nat := 28
def rc_29 : ri_CD := [[some (.aload_n 0, 1, .null), some (.getfield 15, 3, .null), none, none, some (.aload_n 0, 1, .null), some (.getfield 21, 3, .null), none, none, some (.iconst 4, 1, .int (4)), some (.imul, 1, .null), some (.iload_n 1, 1, .null), some (.iadd, 1, .null), some (.iconst 1, 1, .int (1)), some (.iadd, 1, .null), some (.aload_n 0, 1, .null), some (.getfield 25, 3, .null)],
  [none, none, some (.invokestatic 28, 3, .null), none, none, some (.return_, 1, .null)]]
abbrev mX2_endPart : Nat := 29
def rc_30 : ri_CD := [[some (.aload_n 0, 1, .null), some (.getfield 15, 3, .null), none, none, some (.iload_n 1, 1, .null), some (.iconst 4, 1, .int (4)), some (.imul, 1, .null), some (.iload_n 2, 1, .null), some (.iadd, 1, .null), some (.invokestatic 32, 3, .null), none, none, some (.istore 4, 2, .null), none, some (.aload_n 0, 1, .null), some (.getfield 15, 3, .null)],
  [none, none, some (.iload_n 1, 1, .null), some (.iconst 4, 1, .int (4)), some (.imul, 1, .null), some (.iload_n 2, 1, .null), some (.iadd, 1, .null), some (.iconst 1, 1, .int (1)), some (.iadd, 1, .null), some (.invokestatic 32, 3, .null), none, none, some (.istore 5, 2, .null), none, some (.iconst 0, 1, .int (0)), some (.istore 6, 2, .null)],
  [none, some (.iload 4, 2, .null), none, some (.istore 7, 2, .null), none, some (.iload 7, 2, .null), none, some (.ifCond .lt 187, 3, .retAddr 226), none, none, some (.iload 7, 2, .null), none, some (.iload 5, 2, .null), none, some (.if_icmp .ge 180, 3, .retAddr 226), none],
  [none, some (.iload 7, 2, .null), none, some (.aload_n 0, 1, .null), some (.getfield 9, 3, .null), none, none, some (.arraylength, 1, .null), some (.if_icmp .ge 170, 3, .retAddr 226), none, none, some (.aload_n 0, 1, .null), some (.getfield 9, 3, .null), none, none, some (.iload 7, 2, .null)],
  [none, some (.iaload, 1, .null), some (.istore 8, 2, .null), none, some (.iload 8, 2, .null), none, some (.bipush (-6), 2, .int (-6)), none, some (.if_icmp .lt 36, 3, .retAddr 108), none, none, some (.aload_n 0, 1, .null), some (.getfield 18, 3, .null), none, none, some (.iload 6, 2, .null)],
  [none, some (.iload 8, 2, .null), none, some (.ifCond .lt 8, 3, .retAddr 91), none, none, some (.iload 8, 2, .null), none, some (.goto 11, 3, .retAddr 99), none, none, some (.aload_n 3, 1, .null), some (.iconst (-1), 1, .int (-1)), some (.iload 8, 2, .null), none, some (.isub, 1, .null)],
  [some (.invokestatic 32, 3, .null), none, none, some (.invokestatic 28, 3, .null), none, none, some (.iinc 6 1, 3, .int (1)), none, none, some (.goto 115, 3, .retAddr 220), none, none, some (.iload 8, 2, .null), none, some (.bipush (-7), 2, .int (-7)), none],
  [some (.if_icmp .ne 29, 3, .retAddr 141), none, none, some (.aload_n 0, 1, .null), some (.getfield 18, 3, .null), none, none, some (.iload 6, 2, .null), none, some (.iconst 1, 1, .int (1)), some (.isub, 1, .null), some (.aload_n 0, 1, .null), some (.getfield 18, 3, .null), none, none, some (.iload 6, 2, .null)],
  [none, some (.iconst 1, 1, .int (1)), some (.isub, 1, .null), some (.invokestatic 32, 3, .null), none, none, some (.ineg, 1, .null), some (.invokestatic 28, 3, .null), none, none, some (.goto 82, 3, .retAddr 220), none, none, some (.iload 8, 2, .null), none, some (.bipush (-8), 2, .int (-8))],
  [none, some (.if_icmp .ne 36, 3, .retAddr 181), none, none, some (.aload_n 0, 1, .null), some (.getfield 18, 3, .null), none, none, some (.iload 6, 2, .null), none, some (.iconst 1, 1, .int (1)), some (.isub, 1, .null), some (.aload_n 0, 1, .null), some (.getfield 18, 3, .null), none, none],
  [some (.iload 6, 2, .null), none, some (.iconst 1, 1, .int (1)), some (.isub, 1, .null), some (.invokestatic 32, 3, .null), none, none, some (.ifCond .ne 7, 3, .retAddr 174), none, none, some (.iconst 1, 1, .int (1)), some (.goto 4, 3, .retAddr 175), none, none, some (.iconst 0, 1, .int (0)), some (.invokestatic 28, 3, .null)],
  [none, none, some (.goto 42, 3, .retAddr 220), none, none, some (.iinc 6 (-1), 3, .int (-1)), none, none, some (.aload_n 0, 1, .null), some (.getfield 18, 3, .null), none, none, some (.iload 6, 2, .null), none, some (.iconst 1, 1, .int (1)), some (.isub, 1, .null)],
  [some (.iload 8, 2, .null), none, some (.aload_n 0, 1, .null), some (.getfield 18, 3, .null), none, none, some (.iload 6, 2, .null), none, some (.iconst 1, 1, .int (1)), some (.isub, 1, .null), some (.invokestatic 32, 3, .null), none, none, some (.aload_n 0, 1, .null), some (.getfield 18, 3, .null), none],
  [none, some (.iload 6, 2, .null), none, some (.invokestatic 32, 3, .null), none, none, some (.invokestatic 36, 3, .null), none, none, some (.invokestatic 28, 3, .null), none, none, some (.iinc 7 1, 3, .int (1)), none, none, some (.goto (-186), 3, .retAddr 37)],
  [none, none, some (.aload_n 0, 1, .null), some (.getfield 18, 3, .null), none, none, some (.iconst 0, 1, .int (0)), some (.invokestatic 32, 3, .null), none, none, some (.bipush (-99), 2, .int (-99)), none, some (.bipush 99, 2, .int (99)), none, some (.invokestatic 40, 3, .null), none],
  [none, some (.ireturn, 1, .null)]]
abbrev mX2_tell : Nat := 30
def rc_31 : ri_CD := [[some (.aload_n 0, 1, .null), some (.getfield 15, 3, .null), none, none, some (.iload_n 1, 1, .null), some (.iconst 4, 1, .int (4)), some (.imul, 1, .null), some (.invokestatic 32, 3, .null), none, none, some (.istore_n 3, 1, .null), some (.aload_n 0, 1, .null), some (.getfield 15, 3, .null), none, none, some (.iload_n 1, 1, .null)],
  [some (.iconst 4, 1, .int (4)), some (.imul, 1, .null), some (.iconst 2, 1, .int (2)), some (.iadd, 1, .null), some (.invokestatic 32, 3, .null), none, none, some (.istore 4, 2, .null), none, some (.iload_n 3, 1, .null), some (.istore 5, 2, .null), none, some (.iload 5, 2, .null), none, some (.ifCond .lt 39, 3, .retAddr 69), none],
  [none, some (.iload 5, 2, .null), none, some (.iload 4, 2, .null), none, some (.if_icmp .ge 32, 3, .retAddr 69), none, none, some (.iload 5, 2, .null), none, some (.aload_n 0, 1, .null), some (.getfield 9, 3, .null), none, none, some (.arraylength, 1, .null), some (.if_icmp .ge 22, 3, .retAddr 69)],
  [none, none, some (.aload_n 0, 1, .null), some (.getfield 9, 3, .null), none, none, some (.iload 5, 2, .null), none, some (.iaload, 1, .null), some (.iload_n 2, 1, .null), some (.if_icmp .ne 5, 3, .retAddr 63), none, none, some (.iconst 1, 1, .int (1)), some (.ireturn, 1, .null), some (.iinc 5 1, 3, .int (1))],
  [none, none, some (.goto (-38), 3, .retAddr 28), none, none, some (.iconst 0, 1, .int (0)), some (.ireturn, 1, .null)]]
abbrev mX2_hasStep : Nat := 31
def rc_32 : ri_CD := [[some (.iload_n 0, 1, .null), some (.tableswitch 97 (-14) (-9) #[93, 89, 78, 67, 53, 39], 39, .null), none, none, none, none, none, none, none, none, none, none, none, none, none, none],
  [none, none, none, none, none, none, none, none, none, none, none, none, none, none, none, none],
  [none, none, none, none, none, none, none, none, some (.iload_n 1, 1, .null), some (.ifCond .ne 7, 3, .retAddr 48), none, none, some (.iload_n 2, 1, .null), some (.ifCond .eq 7, 3, .retAddr 52), none, none],
  [some (.iconst 1, 1, .int (1)), some (.goto 4, 3, .retAddr 53), none, none, some (.iconst 0, 1, .int (0)), some (.ireturn, 1, .null), some (.iload_n 1, 1, .null), some (.ifCond .eq 11, 3, .retAddr 66), none, none, some (.iload_n 2, 1, .null), some (.ifCond .eq 7, 3, .retAddr 66), none, none, some (.iconst 1, 1, .int (1)), some (.goto 4, 3, .retAddr 67)],
  [none, none, some (.iconst 0, 1, .int (0)), some (.ireturn, 1, .null), some (.iload_n 1, 1, .null), some (.iload_n 2, 1, .null), some (.if_icmp .ge 7, 3, .retAddr 77), none, none, some (.iconst 1, 1, .int (1)), some (.goto 4, 3, .retAddr 78), none, none, some (.iconst 0, 1, .int (0)), some (.ireturn, 1, .null), some (.iload_n 1, 1, .null)],
  [some (.iload_n 2, 1, .null), some (.if_icmp .ne 7, 3, .retAddr 88), none, none, some (.iconst 1, 1, .int (1)), some (.goto 4, 3, .retAddr 89), none, none, some (.iconst 0, 1, .int (0)), some (.ireturn, 1, .null), some (.iload_n 1, 1, .null), some (.iload_n 2, 1, .null), some (.iadd, 1, .null), some (.ireturn, 1, .null), some (.iload_n 1, 1, .null), some (.iload_n 2, 1, .null)],
  [some (.isub, 1, .null), some (.ireturn, 1, .null), some (.iload_n 1, 1, .null), some (.iload_n 2, 1, .null), some (.imul, 1, .null), some (.ireturn, 1, .null)]]
abbrev mX2_joined : Nat := 32
def rc_33 : ri_CD := [[some (.aload_n 1, 1, .null), some (.getfield 9, 3, .null), none, none, some (.aload_n 0, 1, .null), some (.getfield 9, 3, .null), none, none, some (.invokestatic 50, 3, .null), none, none, some (.aload_n 1, 1, .null), some (.getfield 15, 3, .null), none, none, some (.aload_n 0, 1, .null)],
  [some (.getfield 15, 3, .null), none, none, some (.invokestatic 50, 3, .null), none, none, some (.aload_n 1, 1, .null), some (.getfield 18, 3, .null), none, none, some (.aload_n 0, 1, .null), some (.getfield 18, 3, .null), none, none, some (.invokestatic 50, 3, .null), none],
  [none, some (.aload_n 1, 1, .null), some (.getfield 21, 3, .null), none, none, some (.aload_n 0, 1, .null), some (.getfield 21, 3, .null), none, none, some (.invokestatic 50, 3, .null), none, none, some (.aload_n 1, 1, .null), some (.getfield 24, 3, .null), none, none],
  [some (.aload_n 0, 1, .null), some (.getfield 24, 3, .null), none, none, some (.invokestatic 50, 3, .null), none, none, some (.aload_n 1, 1, .null), some (.getfield 27, 3, .null), none, none, some (.aload_n 0, 1, .null), some (.getfield 27, 3, .null), none, none, some (.invokestatic 50, 3, .null)],
  [none, none, some (.aload_n 1, 1, .null), some (.getfield 30, 3, .null), none, none, some (.aload_n 0, 1, .null), some (.getfield 30, 3, .null), none, none, some (.invokestatic 50, 3, .null), none, none, some (.aload_n 0, 1, .null), some (.aload_n 1, 1, .null), some (.getfield 36, 3, .null)],
  [none, none, some (.putfield 36, 3, .null), none, none, some (.aload_n 0, 1, .null), some (.aload_n 1, 1, .null), some (.getfield 40, 3, .null), none, none, some (.putfield 40, 3, .null), none, none, some (.aload_n 0, 1, .null), some (.aload_n 1, 1, .null), some (.getfield 43, 3, .null)],
  [none, none, some (.putfield 43, 3, .null), none, none, some (.return_, 1, .null)]]
abbrev mX3_becomes : Nat := 33
def rc_34 : ri_CD := [[some (.iload_n 1, 1, .null), some (.ifCond .lt 15, 3, .retAddr 16), none, none, some (.iload_n 1, 1, .null), some (.aload_n 0, 1, .null), some (.getfield 36, 3, .null), none, none, some (.if_icmp .ge 7, 3, .retAddr 16), none, none, some (.iconst 1, 1, .int (1)), some (.goto 4, 3, .retAddr 17), none, none],
  [some (.iconst 0, 1, .int (0)), some (.ireturn, 1, .null)]]
abbrev mX3_has : Nat := 34
def rc_35 : ri_CD := [[some (.aload_n 0, 1, .null), some (.getfield 36, 3, .null), none, none, some (.iconst 5, 1, .int (5)), some (.if_icmp .lt 6, 3, .retAddr 11), none, none, some (.bipush (-4), 2, .int (-4)), none, some (.ireturn, 1, .null), some (.aload_n 0, 1, .null), some (.getfield 36, 3, .null), none, none, some (.istore 4, 2, .null)],
  [none, some (.aload_n 0, 1, .null), some (.getfield 18, 3, .null), none, none, some (.iload 4, 2, .null), none, some (.iload_n 1, 1, .null), some (.invokestatic 54, 3, .null), none, none, some (.aload_n 0, 1, .null), some (.getfield 21, 3, .null), none, none, some (.iload 4, 2, .null)],
  [none, some (.iload_n 2, 1, .null), some (.invokestatic 54, 3, .null), none, none, some (.aload_n 0, 1, .null), some (.getfield 24, 3, .null), none, none, some (.iload 4, 2, .null), none, some (.iload_n 3, 1, .null), some (.invokestatic 54, 3, .null), none, none, some (.aload_n 0, 1, .null)],
  [some (.getfield 27, 3, .null), none, none, some (.iload 4, 2, .null), none, some (.iconst 0, 1, .int (0)), some (.invokestatic 54, 3, .null), none, none, some (.aload_n 0, 1, .null), some (.getfield 30, 3, .null), none, none, some (.iload 4, 2, .null), none, some (.iconst 0, 1, .int (0))],
  [some (.invokestatic 54, 3, .null), none, none, some (.aload_n 0, 1, .null), some (.dup, 1, .null), some (.getfield 36, 3, .null), none, none, some (.iconst 1, 1, .int (1)), some (.iadd, 1, .null), some (.putfield 36, 3, .null), none, none, some (.iload 4, 2, .null), none, some (.ireturn, 1, .null)]]
abbrev mX3_comes : Nat := 35
def rc_36 : ri_CD := [[some (.iconst 0, 1, .int (0)), some (.istore_n 2, 1, .null), some (.iconst 0, 1, .int (0)), some (.istore_n 3, 1, .null), some (.iload_n 3, 1, .null), some (.aload_n 0, 1, .null), some (.getfield 36, 3, .null), none, none, some (.if_icmp .ge 28, 3, .retAddr 37), none, none, some (.aload_n 0, 1, .null), some (.getfield 24, 3, .null), none, none],
  [some (.iload_n 3, 1, .null), some (.invokestatic 58, 3, .null), none, none, some (.iload_n 1, 1, .null), some (.if_icmp .ne 10, 3, .retAddr 31), none, none, some (.iload_n 2, 1, .null), some (.iload_n 3, 1, .null), some (.invokestatic 62, 3, .null), none, none, some (.ior, 1, .null), some (.istore_n 2, 1, .null), some (.iinc 3 1, 3, .int (1))],
  [none, none, some (.goto (-30), 3, .retAddr 4), none, none, some (.iload_n 2, 1, .null), some (.ireturn, 1, .null)]]
abbrev mX3_whoAreAt : Nat := 36
def rc_37 : ri_CD := [[some (.iconst 0, 1, .int (0)), some (.istore_n 1, 1, .null), some (.iconst 0, 1, .int (0)), some (.istore_n 2, 1, .null), some (.iload_n 2, 1, .null), some (.aload_n 0, 1, .null), some (.getfield 15, 3, .null), none, none, some (.arraylength, 1, .null), some (.if_icmp .ge 18, 3, .retAddr 28), none, none, some (.iload_n 1, 1, .null), some (.aload_n 0, 1, .null), some (.getfield 15, 3, .null)],
  [none, none, some (.iload_n 2, 1, .null), some (.iaload, 1, .null), some (.iadd, 1, .null), some (.istore_n 1, 1, .null), some (.iinc 2 1, 3, .int (1)), none, none, some (.goto (-21), 3, .retAddr 4), none, none, some (.iload_n 1, 1, .null), some (.ireturn, 1, .null)]]
abbrev mX3_inAllJars : Nat := 37
def rc_38 : ri_CD := [[some (.iload_n 0, 1, .null), some (.bipush 32, 2, .int (32)), none, some (.if_icmp .eq 9, 3, .retAddr 12), none, none, some (.iload_n 0, 1, .null), some (.bipush 10, 2, .int (10)), none, some (.if_icmp .ne 7, 3, .retAddr 16), none, none, some (.iconst 1, 1, .int (1)), some (.goto 4, 3, .retAddr 17), none, none],
  [some (.iconst 0, 1, .int (0)), some (.ireturn, 1, .null)]]
abbrev mX3_closes : Nat := 38
def rc_39 : ri_CD := [[some (.iconst 0, 1, .int (0)), some (.istore_n 2, 1, .null), some (.iload_n 2, 1, .null), some (.aload_n 0, 1, .null), some (.getfield 36, 3, .null), none, none, some (.if_icmp .ge 111, 3, .retAddr 118), none, none, some (.iload_n 2, 1, .null), some (.iload_n 1, 1, .null), some (.if_icmp .ne 13, 3, .retAddr 25), none, none, some (.iconst 1, 1, .int (1))],
  [some (.aload_n 0, 1, .null), some (.iload_n 2, 1, .null), some (.invokevirtual 66, 3, .null), none, none, some (.isub, 1, .null), some (.goto 8, 3, .retAddr 30), none, none, some (.aload_n 0, 1, .null), some (.iload_n 2, 1, .null), some (.invokevirtual 66, 3, .null), none, none, some (.istore_n 3, 1, .null), some (.aload_n 0, 1, .null)],
  [some (.iload_n 2, 1, .null), some (.invokevirtual 69, 3, .null), none, none, some (.istore 4, 2, .null), none, some (.iconst 2, 1, .int (2)), some (.aload_n 0, 1, .null), some (.getfield 24, 3, .null), none, none, some (.iload_n 2, 1, .null), some (.invokestatic 58, 3, .null), none, none, some (.imul, 1, .null)],
  [some (.iload_n 3, 1, .null), some (.iadd, 1, .null), some (.istore 5, 2, .null), none, some (.iconst 2, 1, .int (2)), some (.aload_n 0, 1, .null), some (.getfield 24, 3, .null), none, none, some (.iload_n 2, 1, .null), some (.invokestatic 58, 3, .null), none, none, some (.imul, 1, .null), some (.iconst 1, 1, .int (1)), some (.iadd, 1, .null)],
  [some (.iload_n 3, 1, .null), some (.isub, 1, .null), some (.istore 6, 2, .null), none, some (.aload_n 0, 1, .null), some (.getfield 15, 3, .null), none, none, some (.iload 6, 2, .null), none, some (.sipush 999, 3, .int (999)), none, none, some (.aload_n 0, 1, .null), some (.getfield 15, 3, .null), none],
  [none, some (.iload 6, 2, .null), none, some (.invokestatic 58, 3, .null), none, none, some (.iload 4, 2, .null), none, some (.iadd, 1, .null), some (.invokestatic 72, 3, .null), none, none, some (.invokestatic 54, 3, .null), none, none, some (.aload_n 0, 1, .null)],
  [some (.getfield 24, 3, .null), none, none, some (.iload_n 2, 1, .null), some (.aload_n 0, 1, .null), some (.getfield 9, 3, .null), none, none, some (.iload 5, 2, .null), none, some (.invokestatic 58, 3, .null), none, none, some (.invokestatic 54, 3, .null), none, none],
  [some (.iinc 2 1, 3, .int (1)), none, none, some (.goto (-113), 3, .retAddr 2), none, none, some (.aload_n 0, 1, .null), some (.dup, 1, .null), some (.getfield 40, 3, .null), none, none, some (.iconst 1, 1, .int (1)), some (.iadd, 1, .null), some (.putfield 40, 3, .null), none, none],
  [some (.return_, 1, .null)]]
abbrev mX3_goYear : Nat := 39
def rc_40 : ri_CD := [[some (.aload_n 0, 1, .null), some (.getfield 18, 3, .null), none, none, some (.iload_n 1, 1, .null), some (.invokestatic 58, 3, .null), none, none, some (.istore_n 2, 1, .null), some (.aload_n 0, 1, .null), some (.getfield 24, 3, .null), none, none, some (.iload_n 1, 1, .null), some (.invokestatic 58, 3, .null), none],
  [none, some (.istore_n 3, 1, .null), some (.iload_n 2, 1, .null), some (.iconst 5, 1, .int (5)), some (.if_icmp .ne 14, 3, .retAddr 34), none, none, some (.aload_n 0, 1, .null), some (.getfield 21, 3, .null), none, none, some (.iload_n 1, 1, .null), some (.invokestatic 58, 3, .null), none, none, some (.iconst 2, 1, .int (2))],
  [some (.irem, 1, .null), some (.ireturn, 1, .null), some (.iload_n 2, 1, .null), some (.iconst 4, 1, .int (4)), some (.if_icmp .ne 14, 3, .retAddr 50), none, none, some (.aload_n 0, 1, .null), some (.getfield 40, 3, .null), none, none, some (.iconst 3, 1, .int (3)), some (.irem, 1, .null), some (.ifCond .ne 5, 3, .retAddr 50), none, none],
  [some (.iconst 0, 1, .int (0)), some (.ireturn, 1, .null), some (.iload_n 2, 1, .null), some (.iconst 2, 1, .int (2)), some (.if_icmp .eq 8, 3, .retAddr 60), none, none, some (.iload_n 2, 1, .null), some (.iconst 4, 1, .int (4)), some (.if_icmp .ne 34, 3, .retAddr 91), none, none, some (.aload_n 0, 1, .null), some (.getfield 15, 3, .null), none, none],
  [some (.iconst 2, 1, .int (2)), some (.iload_n 3, 1, .null), some (.imul, 1, .null), some (.iconst 1, 1, .int (1)), some (.iadd, 1, .null), some (.invokestatic 58, 3, .null), none, none, some (.aload_n 0, 1, .null), some (.getfield 15, 3, .null), none, none, some (.iconst 2, 1, .int (2)), some (.iload_n 3, 1, .null), some (.imul, 1, .null), some (.invokestatic 58, 3, .null)],
  [none, none, some (.if_icmp .ge 7, 3, .retAddr 89), none, none, some (.iconst 1, 1, .int (1)), some (.goto 4, 3, .retAddr 90), none, none, some (.iconst 0, 1, .int (0)), some (.ireturn, 1, .null), some (.aload_n 0, 1, .null), some (.getfield 46, 3, .null), none, none, some (.aload_n 0, 1, .null)],
  [some (.getfield 43, 3, .null), none, none, some (.iconst 0, 1, .int (0)), some (.aload_n 0, 1, .null), some (.iload_n 1, 1, .null), some (.aload_n 0, 1, .null), some (.iload_n 3, 1, .null), some (.invokevirtual 78, 3, .null), none, none, some (.invokevirtual 81, 3, .null), none, none, some (.invokevirtual 85, 3, .null), none],
  [none, some (.iconst 2, 1, .int (2)), some (.irem, 1, .null), some (.ifCond .ne 7, 3, .retAddr 122), none, none, some (.iconst 0, 1, .int (0)), some (.goto 4, 3, .retAddr 123), none, none, some (.iconst 1, 1, .int (1)), some (.istore 4, 2, .null), none, some (.iload_n 2, 1, .null), some (.ifCond .eq 18, 3, .retAddr 144), none],
  [none, some (.iload_n 3, 1, .null), some (.aload_n 0, 1, .null), some (.getfield 21, 3, .null), none, none, some (.iload_n 1, 1, .null), some (.invokestatic 58, 3, .null), none, none, some (.if_icmp .ne 6, 3, .retAddr 144), none, none, some (.iconst 1, 1, .int (1)), some (.istore 4, 2, .null), none],
  [some (.iload_n 2, 1, .null), some (.iconst 3, 1, .int (3)), some (.if_icmp .ne 21, 3, .retAddr 167), none, none, some (.aload_n 0, 1, .null), some (.getfield 27, 3, .null), none, none, some (.iload_n 1, 1, .null), some (.invokestatic 58, 3, .null), none, none, some (.ifCond .ge 10, 3, .retAddr 167), none, none],
  [some (.iconst 1, 1, .int (1)), some (.iload 4, 2, .null), none, some (.isub, 1, .null), some (.goto 5, 3, .retAddr 169), none, none, some (.iload 4, 2, .null), none, some (.ireturn, 1, .null)]]
abbrev mX3_takes : Nat := 40
def rc_41 : ri_CD := [[some (.aload_n 0, 1, .null), some (.getfield 18, 3, .null), none, none, some (.iload_n 1, 1, .null), some (.invokestatic 58, 3, .null), none, none, some (.istore_n 2, 1, .null), some (.iload_n 2, 1, .null), some (.iconst 5, 1, .int (5)), some (.if_icmp .ne 5, 3, .retAddr 16), none, none, some (.iconst 0, 1, .int (0)), some (.ireturn, 1, .null)],
  [some (.iconst 0, 1, .int (0)), some (.aload_n 0, 1, .null), some (.getfield 46, 3, .null), none, none, some (.aload_n 0, 1, .null), some (.getfield 43, 3, .null), none, none, some (.iconst 1, 1, .int (1)), some (.aload_n 0, 1, .null), some (.iload_n 1, 1, .null), some (.aload_n 0, 1, .null), some (.aload_n 0, 1, .null), some (.getfield 24, 3, .null), none],
  [none, some (.iload_n 1, 1, .null), some (.invokestatic 58, 3, .null), none, none, some (.invokevirtual 78, 3, .null), none, none, some (.invokevirtual 81, 3, .null), none, none, some (.invokevirtual 85, 3, .null), none, none, some (.invokestatic 91, 3, .null), none],
  [none, some (.istore_n 3, 1, .null), some (.iload_n 2, 1, .null), some (.tableswitch 68 1 4 #[29, 36, 43, 59], 29, .null), none, none, none, none, none, none, none, none, none, none, none, none],
  [none, none, none, none, none, none, none, none, none, none, none, none, none, none, none, none],
  [some (.iconst 2, 1, .int (2)), some (.iload_n 3, 1, .null), some (.imul, 1, .null), some (.istore_n 3, 1, .null), some (.goto 35, 3, .retAddr 119), none, none, some (.iload_n 3, 1, .null), some (.iconst 1, 1, .int (1)), some (.iadd, 1, .null), some (.istore_n 3, 1, .null), some (.goto 28, 3, .retAddr 119), none, none, some (.iconst 2, 1, .int (2)), some (.iload_n 3, 1, .null)],
  [some (.imul, 1, .null), some (.aload_n 0, 1, .null), some (.getfield 21, 3, .null), none, none, some (.iload_n 1, 1, .null), some (.invokestatic 58, 3, .null), none, none, some (.iadd, 1, .null), some (.istore_n 3, 1, .null), some (.goto 12, 3, .retAddr 119), none, none, some (.iload_n 3, 1, .null), some (.iconst 1, 1, .int (1))],
  [some (.iadd, 1, .null), some (.iconst 2, 1, .int (2)), some (.idiv, 1, .null), some (.istore_n 3, 1, .null), some (.goto 3, 3, .retAddr 119), none, none, some (.iload_n 3, 1, .null), some (.iconst 0, 1, .int (0)), some (.bipush 99, 2, .int (99)), none, some (.invokestatic 94, 3, .null), none, none, some (.ireturn, 1, .null)]]
abbrev mX3_putsBy : Nat := 41
def rc_42 : ri_CD := [[some (.aload_n 0, 1, .null), some (.getfield 46, 3, .null), none, none, some (.aload_n 0, 1, .null), some (.getfield 43, 3, .null), none, none, some (.iconst 2, 1, .int (2)), some (.aload_n 0, 1, .null), some (.iload_n 1, 1, .null), some (.aload_n 0, 1, .null), some (.getfield 15, 3, .null), none, none, some (.iload_n 2, 1, .null)],
  [some (.invokestatic 58, 3, .null), none, none, some (.invokevirtual 81, 3, .null), none, none, some (.invokevirtual 85, 3, .null), none, none, some (.istore_n 3, 1, .null), some (.aload_n 0, 1, .null), some (.getfield 30, 3, .null), none, none, some (.iload_n 1, 1, .null), some (.invokestatic 58, 3, .null)],
  [none, none, some (.iconst 3, 1, .int (3)), some (.if_icmp .lt 8, 3, .retAddr 43), none, none, some (.iload_n 3, 1, .null), some (.ineg, 1, .null), some (.goto 4, 3, .retAddr 44), none, none, some (.iload_n 3, 1, .null), some (.istore 4, 2, .null), none, some (.aload_n 0, 1, .null), some (.getfield 18, 3, .null)],
  [none, none, some (.iload_n 1, 1, .null), some (.invokestatic 58, 3, .null), none, none, some (.tableswitch 65 1 5 #[34, 40, 43, 51, 63], 34, .null), none, none, none, none, none, none, none, none, none],
  [none, none, none, none, none, none, none, none, none, none, none, none, none, none, none, none],
  [none, none, none, none, none, none, none, none, some (.iconst 0, 1, .int (0)), some (.iload_n 3, 1, .null), some (.invokestatic 91, 3, .null), none, none, some (.ireturn, 1, .null), some (.iload 4, 2, .null), none],
  [some (.ireturn, 1, .null), some (.iconst 2, 1, .int (2)), some (.iconst 0, 1, .int (0)), some (.iload_n 3, 1, .null), some (.invokestatic 91, 3, .null), none, none, some (.imul, 1, .null), some (.ireturn, 1, .null), some (.iload 4, 2, .null), none, some (.aload_n 0, 1, .null), some (.getfield 21, 3, .null), none, none, some (.iload_n 1, 1, .null)],
  [some (.invokestatic 58, 3, .null), none, none, some (.iadd, 1, .null), some (.ireturn, 1, .null), some (.iconst 0, 1, .int (0)), some (.ireturn, 1, .null), some (.iload_n 3, 1, .null), some (.ireturn, 1, .null)]]
abbrev mX3_feels : Nat := 42
def rc_43 : ri_CD := [[some (.aload_n 0, 1, .null), some (.getfield 27, 3, .null), none, none, some (.iload_n 1, 1, .null), some (.invokestatic 58, 3, .null), none, none, some (.aload_n 0, 1, .null), some (.iload_n 1, 1, .null), some (.iload_n 2, 1, .null), some (.invokevirtual 98, 3, .null), none, none, some (.iadd, 1, .null), some (.bipush (-99), 2, .int (-99))],
  [none, some (.bipush 99, 2, .int (99)), none, some (.invokestatic 94, 3, .null), none, none, some (.istore_n 3, 1, .null), some (.aload_n 0, 1, .null), some (.getfield 27, 3, .null), none, none, some (.iload_n 1, 1, .null), some (.iload_n 3, 1, .null), some (.invokestatic 54, 3, .null), none, none],
  [some (.aload_n 0, 1, .null), some (.getfield 30, 3, .null), none, none, some (.iload_n 1, 1, .null), some (.sipush 999, 3, .int (999)), none, none, some (.aload_n 0, 1, .null), some (.getfield 30, 3, .null), none, none, some (.iload_n 1, 1, .null), some (.invokestatic 58, 3, .null), none, none],
  [some (.iconst 1, 1, .int (1)), some (.iadd, 1, .null), some (.invokestatic 72, 3, .null), none, none, some (.invokestatic 54, 3, .null), none, none, some (.aload_n 0, 1, .null), some (.getfield 15, 3, .null), none, none, some (.iload_n 2, 1, .null), some (.aload_n 0, 1, .null), some (.getfield 15, 3, .null), none],
  [none, some (.iload_n 2, 1, .null), some (.invokestatic 58, 3, .null), none, none, some (.iconst 1, 1, .int (1)), some (.isub, 1, .null), some (.invokestatic 54, 3, .null), none, none, some (.iload_n 3, 1, .null), some (.ireturn, 1, .null)]]
abbrev mX3_eats : Nat := 43
def rc_44 : ri_CD := [[some (.aload_n 0, 1, .null), some (.getfield 15, 3, .null), none, none, some (.iconst 2, 1, .int (2)), some (.iload_n 1, 1, .null), some (.imul, 1, .null), some (.invokestatic 58, 3, .null), none, none, some (.aload_n 0, 1, .null), some (.getfield 15, 3, .null), none, none, some (.iconst 2, 1, .int (2)), some (.iload_n 1, 1, .null)],
  [some (.imul, 1, .null), some (.iconst 1, 1, .int (1)), some (.iadd, 1, .null), some (.invokestatic 58, 3, .null), none, none, some (.iadd, 1, .null), some (.ireturn, 1, .null)]]
abbrev mX3_bothJars : Nat := 44
def rc_45 : ri_CD := [[some (.aload_n 0, 1, .null), some (.getfield 33, 3, .null), none, none, some (.iconst 0, 1, .int (0)), some (.aload_n 0, 1, .null), some (.getfield 24, 3, .null), none, none, some (.iload_n 1, 1, .null), some (.invokestatic 58, 3, .null), none, none, some (.invokestatic 54, 3, .null), none, none],
  [some (.aload_n 0, 1, .null), some (.getfield 33, 3, .null), none, none, some (.iconst 1, 1, .int (1)), some (.iload_n 2, 1, .null), some (.invokestatic 54, 3, .null), none, none, some (.aload_n 0, 1, .null), some (.getfield 33, 3, .null), none, none, some (.iconst 2, 1, .int (2)), some (.aload_n 0, 1, .null), some (.getfield 21, 3, .null)],
  [none, none, some (.iload_n 1, 1, .null), some (.invokestatic 58, 3, .null), none, none, some (.invokestatic 54, 3, .null), none, none, some (.aload_n 0, 1, .null), some (.getfield 33, 3, .null), none, none, some (.iconst 3, 1, .int (3)), some (.aload_n 0, 1, .null), some (.getfield 40, 3, .null)],
  [none, none, some (.invokestatic 54, 3, .null), none, none, some (.aload_n 0, 1, .null), some (.getfield 33, 3, .null), none, none, some (.iconst 4, 1, .int (4)), some (.aload_n 0, 1, .null), some (.getfield 27, 3, .null), none, none, some (.iload_n 1, 1, .null), some (.invokestatic 58, 3, .null)],
  [none, none, some (.invokestatic 54, 3, .null), none, none, some (.aload_n 0, 1, .null), some (.getfield 33, 3, .null), none, none, some (.iconst 5, 1, .int (5)), some (.aload_n 0, 1, .null), some (.getfield 30, 3, .null), none, none, some (.iload_n 1, 1, .null), some (.invokestatic 58, 3, .null)],
  [none, none, some (.invokestatic 54, 3, .null), none, none, some (.aload_n 0, 1, .null), some (.getfield 33, 3, .null), none, none, some (.areturn, 1, .null)]]
abbrev mX3_namesOf : Nat := 45
def rc_46 : ri_CD := [[some (.aload_n 0, 1, .null), some (.invokespecial 1, 3, .null), none, none, some (.aload_n 0, 1, .null), some (.new 7, 3, .null), none, none, some (.dup, 1, .null), some (.invokespecial 9, 3, .null), none, none, some (.putfield 10, 3, .null), none, none, some (.aload_n 0, 1, .null)],
  [some (.new 16, 3, .null), none, none, some (.dup, 1, .null), some (.aload_n 0, 1, .null), some (.getfield 10, 3, .null), none, none, some (.invokespecial 18, 3, .null), none, none, some (.putfield 21, 3, .null), none, none, some (.aload_n 0, 1, .null), some (.new 25, 3, .null)],
  [none, none, some (.dup, 1, .null), some (.aload_n 0, 1, .null), some (.getfield 10, 3, .null), none, none, some (.invokespecial 27, 3, .null), none, none, some (.putfield 28, 3, .null), none, none, some (.aload_n 0, 1, .null), some (.new 25, 3, .null), none],
  [none, some (.dup, 1, .null), some (.aload_n 0, 1, .null), some (.getfield 10, 3, .null), none, none, some (.invokespecial 27, 3, .null), none, none, some (.putfield 32, 3, .null), none, none, some (.aload_n 0, 1, .null), some (.new 25, 3, .null), none, none],
  [some (.dup, 1, .null), some (.aload_n 0, 1, .null), some (.getfield 10, 3, .null), none, none, some (.invokespecial 27, 3, .null), none, none, some (.putfield 35, 3, .null), none, none, some (.aload_n 0, 1, .null), some (.iconst 4, 1, .int (4)), some (.anewarray 38, 3, .null), none, none],
  [some (.putfield 40, 3, .null), none, none, some (.aload_n 0, 1, .null), some (.bipush 12, 2, .int (12)), none, some (.newarray .long, 2, .null), none, some (.putfield 44, 3, .null), none, none, some (.aload_n 0, 1, .null), some (.bipush 12, 2, .int (12)), none, some (.newarray .long, 2, .null), none],
  [some (.putfield 48, 3, .null), none, none, some (.aload_n 0, 1, .null), some (.bipush 12, 2, .int (12)), none, some (.newarray .int, 2, .null), none, some (.putfield 51, 3, .null), none, none, some (.aload_n 0, 1, .null), some (.bipush 12, 2, .int (12)), none, some (.newarray .int, 2, .null), none],
  [some (.putfield 55, 3, .null), none, none, some (.aload_n 0, 1, .null), some (.iconst 0, 1, .int (0)), some (.putfield 58, 3, .null), none, none, some (.iconst 0, 1, .int (0)), some (.istore_n 1, 1, .null), some (.iload_n 1, 1, .null), some (.aload_n 0, 1, .null), some (.getfield 40, 3, .null), none, none, some (.arraylength, 1, .null)],
  [some (.if_icmp .ge 22, 3, .retAddr 150), none, none, some (.aload_n 0, 1, .null), some (.getfield 40, 3, .null), none, none, some (.iload_n 1, 1, .null), some (.new 38, 3, .null), none, none, some (.dup, 1, .null), some (.invokespecial 62, 3, .null), none, none, some (.aastore, 1, .null)],
  [some (.iinc 1 1, 3, .int (1)), none, none, some (.goto (-25), 3, .retAddr 122), none, none, some (.iconst 0, 1, .int (0)), some (.istore_n 1, 1, .null), some (.iload_n 1, 1, .null), some (.ldc 63, 2, .null), none, some (.invokevirtual 65, 3, .null), none, none, some (.if_icmp .ge 23, 3, .retAddr 181), none],
  [none, some (.aload_n 0, 1, .null), some (.getfield 21, 3, .null), none, none, some (.ldc 63, 2, .null), none, some (.iload_n 1, 1, .null), some (.invokevirtual 71, 3, .null), none, none, some (.invokevirtual 75, 3, .null), none, none, some (.pop, 1, .null), some (.iinc 1 1, 3, .int (1))],
  [none, none, some (.goto (-26), 3, .retAddr 152), none, none, some (.aload_n 0, 1, .null), some (.getfield 21, 3, .null), none, none, some (.invokevirtual 79, 3, .null), none, none, some (.pop, 1, .null), some (.return_, 1, .null)]]
abbrev mX4_init : Nat := 46
def rc_47 : ri_CD := [[some (.iload_n 1, 1, .null), some (.iconst 2, 1, .int (2)), some (.if_icmp .ne 9, 3, .retAddr 11), none, none, some (.aload_n 0, 1, .null), some (.iload_n 3, 1, .null), some (.invokevirtual 82, 3, .null), none, none, some (.ireturn, 1, .null), some (.aload_n 0, 1, .null), some (.iload_n 1, 1, .null), some (.invokevirtual 85, 3, .null), none, none],
  [some (.astore 4, 2, .null), none, some (.aload 4, 2, .null), none, some (.ifnull 23, 3, .retAddr 43), none, none, some (.iload_n 2, 1, .null), some (.aload_n 0, 1, .null), some (.iload_n 1, 1, .null), some (.invokevirtual 89, 3, .null), none, none, some (.invokestatic 92, 3, .null), none, none],
  [some (.ifCond .eq 11, 3, .retAddr 43), none, none, some (.iload_n 1, 1, .null), some (.iload_n 3, 1, .null), some (.invokestatic 96, 3, .null), none, none, some (.ifCond .ne 7, 3, .retAddr 47), none, none, some (.sipush (-1000), 3, .int (-1000)), none, none, some (.ireturn, 1, .null), some (.aload 4, 2, .null)],
  [none, some (.iload_n 2, 1, .null), some (.invokestatic 99, 3, .null), none, none, some (.istore 5, 2, .null), none, some (.aload 4, 2, .null), none, some (.iload_n 2, 1, .null), some (.iload_n 3, 1, .null), some (.invokestatic 103, 3, .null), none, none, some (.iload 5, 2, .null), none],
  [some (.ireturn, 1, .null)]]
abbrev mX4_set : Nat := 47
def rc_48 : ri_CD := [[some (.iload_n 1, 1, .null), some (.bipush 6, 2, .int (6)), none, some (.invokestatic 92, 3, .null), none, none, some (.ifCond .eq 21, 3, .retAddr 27), none, none, some (.iload_n 2, 1, .null), some (.bipush 10, 2, .int (10)), none, some (.invokestatic 92, 3, .null), none, none, some (.ifCond .eq 12, 3, .retAddr 27)],
  [none, none, some (.iload_n 3, 1, .null), some (.bipush 12, 2, .int (12)), none, some (.invokestatic 92, 3, .null), none, none, some (.ifCond .ne 6, 3, .retAddr 30), none, none, some (.bipush (-2), 2, .int (-2)), none, some (.ireturn, 1, .null), some (.aload_n 0, 1, .null), some (.getfield 28, 3, .null)],
  [none, none, some (.iload_n 1, 1, .null), some (.iload_n 2, 1, .null), some (.iload_n 3, 1, .null), some (.invokevirtual 107, 3, .null), none, none, some (.ireturn, 1, .null)]]
abbrev mX4_life : Nat := 48
def rc_49 : ri_CD := [[some (.iload_n 2, 1, .null), some (.tableswitch 135 2 10 #[51, 135, 135, 135, 135, 135, 59, 85, 111], 51, .null), none, none, none, none, none, none, none, none, none, none, none, none, none, none],
  [none, none, none, none, none, none, none, none, none, none, none, none, none, none, none, none],
  [none, none, none, none, none, none, none, none, none, none, none, none, none, none, none, none],
  [none, none, none, none, some (.aload_n 0, 1, .null), some (.getfield 28, 3, .null), none, none, some (.getfield 111, 3, .null), none, none, some (.ireturn, 1, .null), some (.aload_n 0, 1, .null), some (.getfield 28, 3, .null), none, none],
  [some (.iload_n 1, 1, .null), some (.invokevirtual 115, 3, .null), none, none, some (.ifCond .eq 14, 3, .retAddr 82), none, none, some (.aload_n 0, 1, .null), some (.getfield 28, 3, .null), none, none, some (.iload_n 1, 1, .null), some (.invokevirtual 119, 3, .null), none, none, some (.goto 6, 3, .retAddr 85)],
  [none, none, some (.sipush (-1000), 3, .int (-1000)), none, none, some (.ireturn, 1, .null), some (.aload_n 0, 1, .null), some (.getfield 28, 3, .null), none, none, some (.iload_n 1, 1, .null), some (.invokevirtual 115, 3, .null), none, none, some (.ifCond .eq 14, 3, .retAddr 108), none],
  [none, some (.aload_n 0, 1, .null), some (.getfield 28, 3, .null), none, none, some (.iload_n 1, 1, .null), some (.invokevirtual 122, 3, .null), none, none, some (.goto 6, 3, .retAddr 111), none, none, some (.sipush (-1000), 3, .int (-1000)), none, none, some (.ireturn, 1, .null)],
  [some (.iload_n 1, 1, .null), some (.bipush 12, 2, .int (12)), none, some (.invokestatic 92, 3, .null), none, none, some (.ifCond .eq 14, 3, .retAddr 132), none, none, some (.aload_n 0, 1, .null), some (.getfield 28, 3, .null), none, none, some (.iload_n 1, 1, .null), some (.invokevirtual 125, 3, .null), none],
  [none, some (.goto 6, 3, .retAddr 135), none, none, some (.sipush (-1000), 3, .int (-1000)), none, none, some (.ireturn, 1, .null), some (.iload_n 2, 1, .null), some (.bipush 7, 2, .int (7)), none, some (.if_icmp .ne 13, 3, .retAddr 152), none, none, some (.aload_n 0, 1, .null), some (.getfield 28, 3, .null)],
  [none, none, some (.getfield 128, 3, .null), none, none, some (.goto 8, 3, .retAddr 157), none, none, some (.aload_n 0, 1, .null), some (.iload_n 2, 1, .null), some (.invokevirtual 85, 3, .null), none, none, some (.astore_n 3, 1, .null), some (.aload_n 3, 1, .null), some (.ifnull 15, 3, .retAddr 174)],
  [none, none, some (.iload_n 1, 1, .null), some (.aload_n 0, 1, .null), some (.iload_n 2, 1, .null), some (.invokevirtual 89, 3, .null), none, none, some (.invokestatic 92, 3, .null), none, none, some (.ifCond .ne 7, 3, .retAddr 178), none, none, some (.sipush (-1000), 3, .int (-1000)), none],
  [none, some (.ireturn, 1, .null), some (.aload_n 3, 1, .null), some (.iload_n 1, 1, .null), some (.invokestatic 99, 3, .null), none, none, some (.ireturn, 1, .null)]]
abbrev mX4_told : Nat := 49
def rc_50 : ri_CD := [[some (.iload_n 0, 1, .null), some (.bipush 32, 2, .int (32)), none, some (.if_icmp .eq 9, 3, .retAddr 12), none, none, some (.iload_n 0, 1, .null), some (.bipush 10, 2, .int (10)), none, some (.if_icmp .ne 7, 3, .retAddr 16), none, none, some (.iconst 1, 1, .int (1)), some (.goto 4, 3, .retAddr 17), none, none],
  [some (.iconst 0, 1, .int (0)), some (.ireturn, 1, .null)]]
abbrev mX4_tastes : Nat := 50
def rc_51 : ri_CD := [[some (.iload_n 0, 1, .null), some (.bipush 32, 2, .int (32)), none, some (.if_icmp .eq 9, 3, .retAddr 12), none, none, some (.iload_n 0, 1, .null), some (.bipush 10, 2, .int (10)), none, some (.if_icmp .ne 7, 3, .retAddr 16), none, none, some (.iconst 1, 1, .int (1)), some (.goto 4, 3, .retAddr 17), none, none],
  [some (.iconst 0, 1, .int (0)), some (.ireturn, 1, .null)]]
abbrev mX4_feed : Nat := 51
def rc_52 : ri_CD := [[some (.iload_n 0, 1, .null), some (.bipush 32, 2, .int (32)), none, some (.if_icmp .eq 9, 3, .retAddr 12), none, none, some (.iload_n 0, 1, .null), some (.bipush 10, 2, .int (10)), none, some (.if_icmp .ne 7, 3, .retAddr 16), none, none, some (.iconst 1, 1, .int (1)), some (.goto 4, 3, .retAddr 17), none, none],
  [some (.iconst 0, 1, .int (0)), some (.ireturn, 1, .null)]]
abbrev mX4_text : Nat := 52
def rc_53 : ri_CD := [[some (.iload_n 0, 1, .null), some (.bipush 32, 2, .int (32)), none, some (.if_icmp .eq 9, 3, .retAddr 12), none, none, some (.iload_n 0, 1, .null), some (.bipush 10, 2, .int (10)), none, some (.if_icmp .ne 7, 3, .retAddr 16), none, none, some (.iconst 1, 1, .int (1)), some (.goto 4, 3, .retAddr 17), none, none],
  [some (.iconst 0, 1, .int (0)), some (.ireturn, 1, .null)]]
abbrev mX4_force : Nat := 53
def rc_54 : ri_CD := [[some (.aload_n 0, 1, .null), some (.getfield 28, 3, .null), none, none, some (.getfield 111, 3, .null), none, none, some (.sipush 999, 3, .int (999)), none, none, some (.if_icmp .lt 6, 3, .retAddr 16), none, none, some (.bipush (-3), 2, .int (-3)), none, some (.ireturn, 1, .null)],
  [some (.aload_n 0, 1, .null), some (.getfield 28, 3, .null), none, none, some (.iconst (-1), 1, .int (-1)), some (.invokevirtual 141, 3, .null), none, none, some (.aload_n 0, 1, .null), some (.getfield 28, 3, .null), none, none, some (.invokevirtual 145, 3, .null), none, none, some (.ireturn, 1, .null)]]
abbrev mX4_year : Nat := 54
def rc_55 : ri_CD := [[some (.aload_n 0, 1, .null), some (.getfield 28, 3, .null), none, none, some (.iload_n 1, 1, .null), some (.invokevirtual 115, 3, .null), none, none, some (.ifCond .eq 12, 3, .retAddr 20), none, none, some (.iload_n 2, 1, .null), some (.bipush 24, 2, .int (24)), none, some (.invokestatic 92, 3, .null), none],
  [none, some (.ifCond .ne 7, 3, .retAddr 24), none, none, some (.sipush (-1000), 3, .int (-1000)), none, none, some (.ireturn, 1, .null), some (.aload_n 0, 1, .null), some (.getfield 28, 3, .null), none, none, some (.getfield 148, 3, .null), none, none, some (.iload_n 2, 1, .null)],
  [some (.invokestatic 99, 3, .null), none, none, some (.iconst 1, 1, .int (1)), some (.if_icmp .ge 7, 3, .retAddr 43), none, none, some (.sipush (-1003), 3, .int (-1003)), none, none, some (.ireturn, 1, .null), some (.aload_n 0, 1, .null), some (.getfield 28, 3, .null), none, none, some (.iload_n 1, 1, .null)],
  [some (.iload_n 2, 1, .null), some (.invokevirtual 151, 3, .null), none, none, some (.ireturn, 1, .null)]]
abbrev mX4_spoon : Nat := 55
def rc_56 : ri_CD := [[some (.iload_n 3, 1, .null), some (.bipush 10, 2, .int (10)), none, some (.if_icmp .lt 13, 3, .retAddr 16), none, none, some (.iload_n 3, 1, .null), some (.bipush 34, 2, .int (34)), none, some (.if_icmp .ge 7, 3, .retAddr 16), none, none, some (.iconst 1, 1, .int (1)), some (.goto 4, 3, .retAddr 17), none, none],
  [some (.iconst 0, 1, .int (0)), some (.istore 4, 2, .null), none, some (.aload_n 0, 1, .null), some (.getfield 28, 3, .null), none, none, some (.iload_n 1, 1, .null), some (.invokevirtual 115, 3, .null), none, none, some (.ifCond .eq 26, 3, .retAddr 53), none, none, some (.iload_n 2, 1, .null), some (.ifCond .lt 22, 3, .retAddr 53)],
  [none, none, some (.iload_n 2, 1, .null), some (.bipush 60, 2, .int (60)), none, some (.if_icmp .gt 16, 3, .retAddr 53), none, none, some (.iload 4, 2, .null), none, some (.ifCond .ne 14, 3, .retAddr 56), none, none, some (.iload_n 3, 1, .null), some (.iconst 3, 1, .int (3)), some (.invokestatic 92, 3, .null)],
  [none, none, some (.ifCond .ne 6, 3, .retAddr 56), none, none, some (.bipush (-2), 2, .int (-2)), none, some (.ireturn, 1, .null), some (.aload_n 0, 1, .null), some (.getfield 32, 3, .null), none, none, some (.aload_n 0, 1, .null), some (.getfield 28, 3, .null), none, none],
  [some (.invokevirtual 154, 3, .null), none, none, some (.aload_n 0, 1, .null), some (.getfield 32, 3, .null), none, none, some (.getfield 158, 3, .null), none, none, some (.iload_n 1, 1, .null), some (.invokestatic 99, 3, .null), none, none, some (.invokestatic 161, 3, .null), none],
  [none, some (.istore 5, 2, .null), none, some (.iconst 0, 1, .int (0)), some (.istore 6, 2, .null), none, some (.iload 6, 2, .null), none, some (.iload_n 2, 1, .null), some (.if_icmp .ge 36, 3, .retAddr 125), none, none, some (.aload_n 0, 1, .null), some (.getfield 32, 3, .null), none, none],
  [some (.iconst (-1), 1, .int (-1)), some (.invokevirtual 141, 3, .null), none, none, some (.iload 5, 2, .null), none, some (.aload_n 0, 1, .null), some (.getfield 32, 3, .null), none, none, some (.getfield 158, 3, .null), none, none, some (.iload_n 1, 1, .null), some (.invokestatic 99, 3, .null), none],
  [none, some (.invokestatic 161, 3, .null), none, none, some (.ior, 1, .null), some (.istore 5, 2, .null), none, some (.iinc 6 1, 3, .int (1)), none, none, some (.goto (-36), 3, .retAddr 86), none, none, some (.iload_n 3, 1, .null), some (.tableswitch 49 0 2 #[26, 38, 41], 26, .null), none],
  [none, none, none, none, none, none, none, none, none, none, none, none, none, none, none, none],
  [none, none, none, none, none, none, none, none, some (.aload_n 0, 1, .null), some (.getfield 32, 3, .null), none, none, some (.getfield 158, 3, .null), none, none, some (.iload_n 1, 1, .null)],
  [some (.invokestatic 99, 3, .null), none, none, some (.ireturn, 1, .null), some (.iload 5, 2, .null), none, some (.ireturn, 1, .null), some (.aload_n 0, 1, .null), some (.getfield 32, 3, .null), none, none, some (.invokevirtual 145, 3, .null), none, none, some (.ireturn, 1, .null), some (.aload_n 0, 1, .null)],
  [some (.getfield 32, 3, .null), none, none, some (.getfield 148, 3, .null), none, none, some (.iload_n 3, 1, .null), some (.bipush 10, 2, .int (10)), none, some (.isub, 1, .null), some (.invokestatic 99, 3, .null), none, none, some (.ireturn, 1, .null)]]
abbrev mX4_run : Nat := 56
def rc_57 : ri_CD := [[some (.aload_n 0, 1, .null), some (.getfield 28, 3, .null), none, none, some (.iload_n 1, 1, .null), some (.invokevirtual 115, 3, .null), none, none, some (.ifCond .eq 22, 3, .retAddr 30), none, none, some (.iload_n 2, 1, .null), some (.iconst 1, 1, .int (1)), some (.if_icmp .lt 17, 3, .retAddr 30), none, none],
  [some (.iload_n 2, 1, .null), some (.bipush 40, 2, .int (40)), none, some (.if_icmp .gt 11, 3, .retAddr 30), none, none, some (.iload_n 3, 1, .null), some (.iload_n 2, 1, .null), some (.invokestatic 92, 3, .null), none, none, some (.ifCond .ne 6, 3, .retAddr 33), none, none, some (.bipush (-2), 2, .int (-2)), none],
  [some (.ireturn, 1, .null), some (.aload_n 0, 1, .null), some (.getfield 32, 3, .null), none, none, some (.aload_n 0, 1, .null), some (.getfield 28, 3, .null), none, none, some (.invokevirtual 154, 3, .null), none, none, some (.iconst 0, 1, .int (0)), some (.istore 4, 2, .null), none, some (.iload 4, 2, .null)],
  [none, some (.iload_n 2, 1, .null), some (.if_icmp .ge 27, 3, .retAddr 77), none, none, some (.aload_n 0, 1, .null), some (.getfield 32, 3, .null), none, none, some (.iload 4, 2, .null), none, some (.iload_n 3, 1, .null), some (.if_icmp .ne 7, 3, .retAddr 67), none, none, some (.iload_n 1, 1, .null)],
  [some (.goto 4, 3, .retAddr 68), none, none, some (.iconst (-1), 1, .int (-1)), some (.invokevirtual 141, 3, .null), none, none, some (.iinc 4 1, 3, .int (1)), none, none, some (.goto (-27), 3, .retAddr 47), none, none, some (.aload_n 0, 1, .null), some (.getfield 32, 3, .null), none],
  [none, some (.getfield 158, 3, .null), none, none, some (.iload_n 1, 1, .null), some (.invokestatic 99, 3, .null), none, none, some (.ireturn, 1, .null)]]
abbrev mX4_otherwise : Nat := 57
def rc_58 : ri_CD := [[some (.iload_n 1, 1, .null), some (.bipush 12, 2, .int (12)), none, some (.invokestatic 92, 3, .null), none, none, some (.ifCond .eq 22, 3, .retAddr 28), none, none, some (.iload_n 2, 1, .null), some (.bipush 12, 2, .int (12)), none, some (.invokestatic 92, 3, .null), none, none, some (.ifCond .eq 13, 3, .retAddr 28)],
  [none, none, some (.iload_n 3, 1, .null), some (.ifCond .lt 9, 3, .retAddr 28), none, none, some (.iload_n 3, 1, .null), some (.bipush 30, 2, .int (30)), none, some (.if_icmp .le 7, 3, .retAddr 32), none, none, some (.ldc2_w 164, 3, .null), none, none, some (.lreturn, 1, .null)],
  [some (.aload_n 0, 1, .null), some (.iload_n 1, 1, .null), some (.iload_n 2, 1, .null), some (.iload_n 3, 1, .null), some (.invokevirtual 166, 3, .null), none, none, some (.lreturn, 1, .null)]]
abbrev mX4_turns : Nat := 58
def rc_59 : ri_CD := [[some (.iload_n 1, 1, .null), some (.bipush 12, 2, .int (12)), none, some (.invokestatic 92, 3, .null), none, none, some (.ifCond .eq 31, 3, .retAddr 37), none, none, some (.iload_n 2, 1, .null), some (.bipush 12, 2, .int (12)), none, some (.invokestatic 92, 3, .null), none, none, some (.ifCond .eq 22, 3, .retAddr 37)],
  [none, none, some (.iload_n 3, 1, .null), some (.ifCond .lt 18, 3, .retAddr 37), none, none, some (.iload_n 3, 1, .null), some (.bipush 30, 2, .int (30)), none, some (.if_icmp .gt 12, 3, .retAddr 37), none, none, some (.iload 4, 2, .null), none, some (.iconst 2, 1, .int (2)), some (.invokestatic 92, 3, .null)],
  [none, none, some (.ifCond .ne 7, 3, .retAddr 41), none, none, some (.ldc2_w 164, 3, .null), none, none, some (.lreturn, 1, .null), some (.aload_n 0, 1, .null), some (.iload_n 1, 1, .null), some (.iload_n 2, 1, .null), some (.iload_n 3, 1, .null), some (.invokevirtual 166, 3, .null), none, none],
  [some (.lconst 1, 1, .null), some (.iload_n 3, 1, .null), some (.lshl, 1, .null), some (.iload 4, 2, .null), none, some (.invokestatic 170, 3, .null), none, none, some (.lreturn, 1, .null)]]
abbrev mX4_likely : Nat := 59
def rc_60 : ri_CD := [[some (.aload_n 0, 1, .null), some (.getfield 28, 3, .null), none, none, some (.iload_n 1, 1, .null), some (.invokevirtual 115, 3, .null), none, none, some (.ifCond .eq 22, 3, .retAddr 30), none, none, some (.iload_n 2, 1, .null), some (.bipush 12, 2, .int (12)), none, some (.invokestatic 92, 3, .null), none],
  [none, some (.ifCond .eq 13, 3, .retAddr 30), none, none, some (.iload_n 3, 1, .null), some (.ifCond .lt 9, 3, .retAddr 30), none, none, some (.iload_n 3, 1, .null), some (.bipush 30, 2, .int (30)), none, some (.if_icmp .le 6, 3, .retAddr 33), none, none, some (.bipush (-2), 2, .int (-2)), none],
  [some (.ireturn, 1, .null), some (.aload_n 0, 1, .null), some (.getfield 32, 3, .null), none, none, some (.aload_n 0, 1, .null), some (.getfield 28, 3, .null), none, none, some (.invokevirtual 154, 3, .null), none, none, some (.aload_n 0, 1, .null), some (.getfield 51, 3, .null), none, none],
  [some (.iconst (-1), 1, .int (-1)), some (.invokestatic 174, 3, .null), none, none, some (.aload_n 0, 1, .null), some (.getfield 51, 3, .null), none, none, some (.aload_n 0, 1, .null), some (.getfield 28, 3, .null), none, none, some (.getfield 158, 3, .null), none, none, some (.iload_n 1, 1, .null)],
  [some (.invokestatic 99, 3, .null), none, none, some (.iconst 0, 1, .int (0)), some (.invokestatic 103, 3, .null), none, none, some (.iconst 0, 1, .int (0)), some (.istore 4, 2, .null), none, some (.iload 4, 2, .null), none, some (.iload_n 3, 1, .null), some (.if_icmp .ge 27, 3, .retAddr 104), none, none],
  [some (.aload_n 0, 1, .null), some (.iload_n 1, 1, .null), some (.invokevirtual 178, 3, .null), none, none, some (.aload_n 0, 1, .null), some (.getfield 32, 3, .null), none, none, some (.dup, 1, .null), some (.getfield 111, 3, .null), none, none, some (.iconst 1, 1, .int (1)), some (.iadd, 1, .null), some (.putfield 111, 3, .null)],
  [none, none, some (.iinc 4 1, 3, .int (1)), none, none, some (.goto (-27), 3, .retAddr 74), none, none, some (.aload_n 0, 1, .null), some (.getfield 51, 3, .null), none, none, some (.iload_n 2, 1, .null), some (.invokestatic 99, 3, .null), none, none],
  [some (.ireturn, 1, .null)]]
abbrev mX4_fewest : Nat := 60
def rc_61 : ri_CD := [[some (.iload_n 0, 1, .null), some (.bipush 32, 2, .int (32)), none, some (.if_icmp .eq 9, 3, .retAddr 12), none, none, some (.iload_n 0, 1, .null), some (.bipush 10, 2, .int (10)), none, some (.if_icmp .ne 7, 3, .retAddr 16), none, none, some (.iconst 1, 1, .int (1)), some (.goto 4, 3, .retAddr 17), none, none],
  [some (.iconst 0, 1, .int (0)), some (.ireturn, 1, .null)]]
abbrev mX4_meet : Nat := 61
def rc_62 : ri_CD := [[some (.iload_n 0, 1, .null), some (.bipush 32, 2, .int (32)), none, some (.if_icmp .eq 9, 3, .retAddr 12), none, none, some (.iload_n 0, 1, .null), some (.bipush 10, 2, .int (10)), none, some (.if_icmp .ne 7, 3, .retAddr 16), none, none, some (.iconst 1, 1, .int (1)), some (.goto 4, 3, .retAddr 17), none, none],
  [some (.iconst 0, 1, .int (0)), some (.ireturn, 1, .null)]]
abbrev mX4_shut : Nat := 62
def rc_63 : ri_CD := [[some (.aload_n 0, 1, .null), some (.getfield 28, 3, .null), none, none, some (.iload_n 1, 1, .null), some (.invokevirtual 115, 3, .null), none, none, some (.ifCond .eq 11, 3, .retAddr 19), none, none, some (.iload_n 2, 1, .null), some (.iconst 3, 1, .int (3)), some (.invokestatic 92, 3, .null), none, none],
  [some (.ifCond .ne 7, 3, .retAddr 23), none, none, some (.sipush (-1000), 3, .int (-1000)), none, none, some (.ireturn, 1, .null), some (.iload_n 2, 1, .null), some (.iconst 2, 1, .int (2)), some (.if_icmp .ne 8, 3, .retAddr 33), none, none, some (.aload_n 0, 1, .null), some (.invokevirtual 184, 3, .null), none, none],
  [some (.ireturn, 1, .null), some (.aload_n 0, 1, .null), some (.iload_n 1, 1, .null), some (.invokevirtual 187, 3, .null), none, none, some (.istore_n 3, 1, .null), some (.iload_n 2, 1, .null), some (.ifCond .ne 5, 3, .retAddr 45), none, none, some (.iload_n 3, 1, .null), some (.ireturn, 1, .null), some (.iload_n 3, 1, .null), some (.iconst (-1), 1, .int (-1)), some (.if_icmp .ne 7, 3, .retAddr 54)],
  [none, none, some (.iconst 0, 1, .int (0)), some (.goto 12, 3, .retAddr 63), none, none, some (.aload_n 0, 1, .null), some (.getfield 28, 3, .null), none, none, some (.iload_n 1, 1, .null), some (.iload_n 3, 1, .null), some (.invokevirtual 131, 3, .null), none, none, some (.ireturn, 1, .null)]]
abbrev mX4_best : Nat := 63
def rc_64 : ri_CD := [[some (.aload_n 0, 1, .null), some (.iload_n 1, 1, .null), some (.invokevirtual 190, 3, .null), none, none, some (.astore 4, 2, .null), none, some (.aload 4, 2, .null), none, some (.ifnull 23, 3, .retAddr 32), none, none, some (.aload_n 0, 1, .null), some (.getfield 28, 3, .null), none, none],
  [some (.iload_n 2, 1, .null), some (.invokevirtual 115, 3, .null), none, none, some (.ifCond .eq 12, 3, .retAddr 32), none, none, some (.iload_n 3, 1, .null), some (.bipush 8, 2, .int (8)), none, some (.invokestatic 92, 3, .null), none, none, some (.ifCond .ne 7, 3, .retAddr 36), none, none],
  [some (.sipush (-1002), 3, .int (-1002)), none, none, some (.ireturn, 1, .null), some (.aload 4, 2, .null), none, some (.invokevirtual 194, 3, .null), none, none, some (.ifCond .eq 7, 3, .retAddr 48), none, none, some (.sipush (-1011), 3, .int (-1011)), none, none, some (.ireturn, 1, .null)],
  [some (.aload 4, 2, .null), none, some (.getfield 198, 3, .null), none, none, some (.bipush 30, 2, .int (30)), none, some (.if_icmp .le 7, 3, .retAddr 62), none, none, some (.sipush (-1003), 3, .int (-1003)), none, none, some (.ireturn, 1, .null), some (.iload_n 3, 1, .null), some (.tableswitch 109 0 6 #[41, 51, 62, 73, 84, 84, 93], 41, .null)],
  [none, none, none, none, none, none, none, none, none, none, none, none, none, none, none, none],
  [none, none, none, none, none, none, none, none, none, none, none, none, none, none, none, none],
  [none, none, none, none, none, none, none, none, some (.aload_n 0, 1, .null), some (.aload 4, 2, .null), none, some (.iload_n 2, 1, .null), some (.iload_n 3, 1, .null), some (.iconst 0, 1, .int (0)), some (.invokevirtual 201, 3, .null), none],
  [none, some (.ireturn, 1, .null), some (.aload_n 0, 1, .null), some (.aload 4, 2, .null), none, some (.iload_n 2, 1, .null), some (.iload_n 3, 1, .null), some (.bipush 6, 2, .int (6)), none, some (.invokevirtual 205, 3, .null), none, none, some (.ireturn, 1, .null), some (.aload_n 0, 1, .null), some (.aload 4, 2, .null), none],
  [some (.iload_n 2, 1, .null), some (.iload_n 3, 1, .null), some (.bipush 10, 2, .int (10)), none, some (.invokevirtual 205, 3, .null), none, none, some (.ireturn, 1, .null), some (.aload_n 0, 1, .null), some (.aload 4, 2, .null), none, some (.iload_n 2, 1, .null), some (.iload_n 3, 1, .null), some (.bipush 12, 2, .int (12)), none, some (.invokevirtual 205, 3, .null)],
  [none, none, some (.ireturn, 1, .null), some (.aload_n 0, 1, .null), some (.aload 4, 2, .null), none, some (.iload_n 2, 1, .null), some (.iload_n 3, 1, .null), some (.invokevirtual 208, 3, .null), none, none, some (.ireturn, 1, .null), some (.aload_n 0, 1, .null), some (.aload 4, 2, .null), none, some (.iload_n 2, 1, .null)],
  [some (.iload_n 3, 1, .null), some (.aload_n 0, 1, .null), some (.getfield 10, 3, .null), none, none, some (.getfield 135, 3, .null), none, none, some (.invokevirtual 205, 3, .null), none, none, some (.ireturn, 1, .null), some (.aload_n 0, 1, .null), some (.aload 4, 2, .null), none, some (.iload_n 2, 1, .null)],
  [some (.iload_n 3, 1, .null), some (.aload_n 0, 1, .null), some (.getfield 28, 3, .null), none, none, some (.getfield 212, 3, .null), none, none, some (.invokevirtual 205, 3, .null), none, none, some (.ireturn, 1, .null)]]
abbrev mX4_tells : Nat := 64
def rc_65 : ri_CD := [[some (.aload_n 0, 1, .null), some (.iload_n 1, 1, .null), some (.invokevirtual 190, 3, .null), none, none, some (.astore 4, 2, .null), none, some (.aload 4, 2, .null), none, some (.ifnull 24, 3, .retAddr 33), none, none, some (.aload_n 0, 1, .null), some (.getfield 28, 3, .null), none, none],
  [some (.iload_n 2, 1, .null), some (.invokevirtual 115, 3, .null), none, none, some (.ifCond .eq 13, 3, .retAddr 33), none, none, some (.iload_n 3, 1, .null), some (.ifCond .lt 9, 3, .retAddr 33), none, none, some (.iload_n 3, 1, .null), some (.bipush 30, 2, .int (30)), none, some (.if_icmp .le 6, 3, .retAddr 36), none],
  [none, some (.bipush (-2), 2, .int (-2)), none, some (.ireturn, 1, .null), some (.aload 4, 2, .null), none, some (.iconst 0, 1, .int (0)), some (.iload_n 3, 1, .null), some (.invokevirtual 215, 3, .null), none, none, some (.aload_n 0, 1, .null), some (.getfield 32, 3, .null), none, none, some (.aload_n 0, 1, .null)],
  [some (.getfield 28, 3, .null), none, none, some (.invokevirtual 154, 3, .null), none, none, some (.iconst 0, 1, .int (0)), some (.istore 5, 2, .null), none, some (.iload 5, 2, .null), none, some (.iload_n 3, 1, .null), some (.if_icmp .ge 35, 3, .retAddr 95), none, none, some (.aload_n 0, 1, .null)],
  [some (.getfield 32, 3, .null), none, none, some (.iconst (-1), 1, .int (-1)), some (.invokevirtual 141, 3, .null), none, none, some (.aload 4, 2, .null), none, some (.iload 5, 2, .null), none, some (.aload_n 0, 1, .null), some (.getfield 32, 3, .null), none, none, some (.getfield 158, 3, .null)],
  [none, none, some (.iload_n 2, 1, .null), some (.invokestatic 99, 3, .null), none, none, some (.invokevirtual 218, 3, .null), none, none, some (.iinc 5 1, 3, .int (1)), none, none, some (.goto (-35), 3, .retAddr 57), none, none, some (.iload_n 3, 1, .null)],
  [some (.ireturn, 1, .null)]]
abbrev mX4_film : Nat := 65
def rc_66 : ri_CD := [[some (.iload_n 0, 1, .null), some (.bipush 32, 2, .int (32)), none, some (.if_icmp .eq 9, 3, .retAddr 12), none, none, some (.iload_n 0, 1, .null), some (.bipush 10, 2, .int (10)), none, some (.if_icmp .ne 7, 3, .retAddr 16), none, none, some (.iconst 1, 1, .int (1)), some (.goto 4, 3, .retAddr 17), none, none],
  [some (.iconst 0, 1, .int (0)), some (.ireturn, 1, .null)]]
abbrev mX4_drawn : Nat := 66
def rc_67 : ri_CD := [[some (.iload_n 0, 1, .null), some (.bipush 32, 2, .int (32)), none, some (.if_icmp .eq 9, 3, .retAddr 12), none, none, some (.iload_n 0, 1, .null), some (.bipush 10, 2, .int (10)), none, some (.if_icmp .ne 7, 3, .retAddr 16), none, none, some (.iconst 1, 1, .int (1)), some (.goto 4, 3, .retAddr 17), none, none],
  [some (.iconst 0, 1, .int (0)), some (.ireturn, 1, .null)]]
abbrev mX4_chance : Nat := 67
def rc_68 : ri_CD := [[some (.aload_n 0, 1, .null), some (.getfield 35, 3, .null), none, none, some (.aload_n 0, 1, .null), some (.getfield 28, 3, .null), none, none, some (.invokevirtual 154, 3, .null), none, none, some (.aload_n 0, 1, .null), some (.iconst 1, 1, .int (1)), some (.putfield 58, 3, .null), none, none],
  [some (.aload_n 0, 1, .null), some (.getfield 28, 3, .null), none, none, some (.getfield 212, 3, .null), none, none, some (.ireturn, 1, .null)]]
abbrev mX4_image : Nat := 68
def rc_69 : ri_CD := [[some (.aload_n 0, 1, .null), some (.getfield 58, 3, .null), none, none, some (.ifCond .ne 6, 3, .retAddr 10), none, none, some (.bipush (-3), 2, .int (-3)), none, some (.ireturn, 1, .null), some (.aload_n 0, 1, .null), some (.getfield 28, 3, .null), none, none, some (.aload_n 0, 1, .null), some (.getfield 35, 3, .null)],
  [none, none, some (.invokevirtual 154, 3, .null), none, none, some (.aload_n 0, 1, .null), some (.getfield 28, 3, .null), none, none, some (.getfield 212, 3, .null), none, none, some (.ireturn, 1, .null)]]
abbrev mX4_back : Nat := 69
def rc_70 : ri_CD := [[some (.iload_n 1, 1, .null), some (.tableswitch 87 0 5 #[39, 47, 55, 63, 71, 79], 39, .null), none, none, none, none, none, none, none, none, none, none, none, none, none, none],
  [none, none, none, none, none, none, none, none, none, none, none, none, none, none, none, none],
  [none, none, none, none, none, none, none, none, some (.aload_n 0, 1, .null), some (.getfield 28, 3, .null), none, none, some (.getfield 212, 3, .null), none, none, some (.ireturn, 1, .null)],
  [some (.aload_n 0, 1, .null), some (.getfield 28, 3, .null), none, none, some (.invokevirtual 145, 3, .null), none, none, some (.ireturn, 1, .null), some (.aload_n 0, 1, .null), some (.getfield 28, 3, .null), none, none, some (.getfield 111, 3, .null), none, none, some (.ireturn, 1, .null)],
  [some (.aload_n 0, 1, .null), some (.getfield 10, 3, .null), none, none, some (.getfield 135, 3, .null), none, none, some (.ireturn, 1, .null), some (.aload_n 0, 1, .null), some (.getfield 21, 3, .null), none, none, some (.getfield 224, 3, .null), none, none, some (.ireturn, 1, .null)],
  [some (.aload_n 0, 1, .null), some (.getfield 28, 3, .null), none, none, some (.getfield 138, 3, .null), none, none, some (.ireturn, 1, .null), some (.bipush (-2), 2, .int (-2)), none, some (.ireturn, 1, .null)]]
abbrev mX4_count : Nat := 70
def rc_71 : ri_CD := [[some (.iload_n 0, 1, .null), some (.bipush 32, 2, .int (32)), none, some (.if_icmp .eq 9, 3, .retAddr 12), none, none, some (.iload_n 0, 1, .null), some (.bipush 10, 2, .int (10)), none, some (.if_icmp .ne 7, 3, .retAddr 16), none, none, some (.iconst 1, 1, .int (1)), some (.goto 4, 3, .retAddr 17), none, none],
  [some (.iconst 0, 1, .int (0)), some (.ireturn, 1, .null)]]
abbrev mX4_sheet : Nat := 71
def rc_72 : ri_CD := [[some (.iload_n 0, 1, .null), some (.bipush 32, 2, .int (32)), none, some (.if_icmp .eq 9, 3, .retAddr 12), none, none, some (.iload_n 0, 1, .null), some (.bipush 10, 2, .int (10)), none, some (.if_icmp .ne 7, 3, .retAddr 16), none, none, some (.iconst 1, 1, .int (1)), some (.goto 4, 3, .retAddr 17), none, none],
  [some (.iconst 0, 1, .int (0)), some (.ireturn, 1, .null)]]
abbrev mX4_cell : Nat := 72
def rc_73 : ri_CD := [[some (.iload_n 0, 1, .null), some (.bipush 32, 2, .int (32)), none, some (.if_icmp .eq 9, 3, .retAddr 12), none, none, some (.iload_n 0, 1, .null), some (.bipush 10, 2, .int (10)), none, some (.if_icmp .ne 7, 3, .retAddr 16), none, none, some (.iconst 1, 1, .int (1)), some (.goto 4, 3, .retAddr 17), none, none],
  [some (.iconst 0, 1, .int (0)), some (.ireturn, 1, .null)]]
abbrev mX4_copy : Nat := 73
def rc_74 : ri_CD := [[some (.iload_n 0, 1, .null), some (.bipush 32, 2, .int (32)), none, some (.if_icmp .eq 9, 3, .retAddr 12), none, none, some (.iload_n 0, 1, .null), some (.bipush 10, 2, .int (10)), none, some (.if_icmp .ne 7, 3, .retAddr 16), none, none, some (.iconst 1, 1, .int (1)), some (.goto 4, 3, .retAddr 17), none, none],
  [some (.iconst 0, 1, .int (0)), some (.ireturn, 1, .null)]]
abbrev mX4_lives : Nat := 74
def rc_75 : ri_CD := [[some (.iload_n 0, 1, .null), some (.bipush 32, 2, .int (32)), none, some (.if_icmp .eq 9, 3, .retAddr 12), none, none, some (.iload_n 0, 1, .null), some (.bipush 10, 2, .int (10)), none, some (.if_icmp .ne 7, 3, .retAddr 16), none, none, some (.iconst 1, 1, .int (1)), some (.goto 4, 3, .retAddr 17), none, none],
  [some (.iconst 0, 1, .int (0)), some (.ireturn, 1, .null)]]
abbrev mX4_taken : Nat := 75
def rc_76 : ri_CD := [[some (.iload_n 1, 1, .null), some (.ifCond .lt 10, 3, .retAddr 11), none, none, some (.iload_n 1, 1, .null), some (.sipush 999, 3, .int (999)), none, none, some (.if_icmp .le 7, 3, .retAddr 15), none, none, some (.sipush (-1000), 3, .int (-1000)), none, none, some (.ireturn, 1, .null), some (.aload_n 0, 1, .null)],
  [some (.getfield 28, 3, .null), none, none, some (.getfield 111, 3, .null), none, none, some (.istore_n 2, 1, .null), some (.aload_n 0, 1, .null), some (.getfield 28, 3, .null), none, none, some (.iload_n 1, 1, .null), some (.putfield 111, 3, .null), none, none, some (.iload_n 2, 1, .null)],
  [some (.ireturn, 1, .null)]]
abbrev mX4_setYear : Nat := 76
def rc_77 : ri_CD := [[some (.iload_n 1, 1, .null), some (.tableswitch 91 0 6 #[43, 51, 91, 59, 67, 75, 83], 43, .null), none, none, none, none, none, none, none, none, none, none, none, none, none, none],
  [none, none, none, none, none, none, none, none, none, none, none, none, none, none, none, none],
  [none, none, none, none, none, none, none, none, none, none, none, none, some (.aload_n 0, 1, .null), some (.getfield 28, 3, .null), none, none],
  [some (.getfield 252, 3, .null), none, none, some (.areturn, 1, .null), some (.aload_n 0, 1, .null), some (.getfield 28, 3, .null), none, none, some (.getfield 148, 3, .null), none, none, some (.areturn, 1, .null), some (.aload_n 0, 1, .null), some (.getfield 28, 3, .null), none, none],
  [some (.getfield 249, 3, .null), none, none, some (.areturn, 1, .null), some (.aload_n 0, 1, .null), some (.getfield 28, 3, .null), none, none, some (.getfield 158, 3, .null), none, none, some (.areturn, 1, .null), some (.aload_n 0, 1, .null), some (.getfield 28, 3, .null), none, none],
  [some (.getfield 255, 3, .null), none, none, some (.areturn, 1, .null), some (.aload_n 0, 1, .null), some (.getfield 28, 3, .null), none, none, some (.getfield 258, 3, .null), none, none, some (.areturn, 1, .null), some (.aconst_null, 1, .null), some (.areturn, 1, .null)]]
abbrev mX4_rowOf : Nat := 77
def rc_78 : ri_CD := [[some (.iload_n 1, 1, .null), some (.ifCond .eq 8, 3, .retAddr 9), none, none, some (.iload_n 1, 1, .null), some (.iconst 1, 1, .int (1)), some (.if_icmp .ne 8, 3, .retAddr 14), none, none, some (.bipush 24, 2, .int (24)), none, some (.goto 10, 3, .retAddr 21), none, none, some (.aload_n 0, 1, .null), some (.getfield 28, 3, .null)],
  [none, none, some (.getfield 212, 3, .null), none, none, some (.ireturn, 1, .null)]]
abbrev mX4_sizeOf : Nat := 78
def rc_79 : ri_CD := [[some (.iload_n 0, 1, .null), some (.tableswitch 83 0 6 #[43, 50, 83, 58, 43, 65, 50], 43, .null), none, none, none, none, none, none, none, none, none, none, none, none, none, none],
  [none, none, none, none, none, none, none, none, none, none, none, none, none, none, none, none],
  [none, none, none, none, none, none, none, none, none, none, none, none, some (.iload_n 1, 1, .null), some (.bipush 12, 2, .int (12)), none, some (.invokestatic 92, 3, .null)],
  [none, none, some (.ireturn, 1, .null), some (.iload_n 1, 1, .null), some (.sipush 1000, 3, .int (1000)), none, none, some (.invokestatic 92, 3, .null), none, none, some (.ireturn, 1, .null), some (.iload_n 1, 1, .null), some (.bipush 10, 2, .int (10)), none, some (.invokestatic 92, 3, .null), none],
  [none, some (.ireturn, 1, .null), some (.iload_n 1, 1, .null), some (.bipush (-99), 2, .int (-99)), none, some (.if_icmp .lt 13, 3, .retAddr 82), none, none, some (.iload_n 1, 1, .null), some (.bipush 99, 2, .int (99)), none, some (.if_icmp .gt 7, 3, .retAddr 82), none, none, some (.iconst 1, 1, .int (1)), some (.goto 4, 3, .retAddr 83)],
  [none, none, some (.iconst 0, 1, .int (0)), some (.ireturn, 1, .null), some (.iconst 0, 1, .int (0)), some (.ireturn, 1, .null)]]
abbrev mX4_holds : Nat := 79
def rc_80 : ri_CD := [[some (.iconst 0, 1, .int (0)), some (.istore 4, 2, .null), none, some (.iload 4, 2, .null), none, some (.aload_n 0, 1, .null), some (.getfield 44, 3, .null), none, none, some (.arraylength, 1, .null), some (.if_icmp .ge 27, 3, .retAddr 37), none, none, some (.aload_n 0, 1, .null), some (.getfield 44, 3, .null), none],
  [none, some (.iload 4, 2, .null), none, some (.iload 4, 2, .null), none, some (.iload_n 1, 1, .null), some (.if_icmp .ne 7, 3, .retAddr 29), none, none, some (.lconst 1, 1, .null), some (.goto 4, 3, .retAddr 30), none, none, some (.lconst 0, 1, .null), some (.lastore, 1, .null), some (.iinc 4 1, 3, .int (1))],
  [none, none, some (.goto (-31), 3, .retAddr 3), none, none, some (.iconst 0, 1, .int (0)), some (.istore 4, 2, .null), none, some (.iload 4, 2, .null), none, some (.iload_n 3, 1, .null), some (.if_icmp .ge 13, 3, .retAddr 56), none, none, some (.aload_n 0, 1, .null), some (.invokevirtual 261, 3, .null)],
  [none, none, some (.iinc 4 1, 3, .int (1)), none, none, some (.goto (-13), 3, .retAddr 40), none, none, some (.iload_n 2, 1, .null), some (.aload_n 0, 1, .null), some (.getfield 44, 3, .null), none, none, some (.arraylength, 1, .null), some (.invokestatic 92, 3, .null), none],
  [none, some (.ifCond .eq 12, 3, .retAddr 77), none, none, some (.aload_n 0, 1, .null), some (.getfield 44, 3, .null), none, none, some (.iload_n 2, 1, .null), some (.laload, 1, .null), some (.goto 4, 3, .retAddr 78), none, none, some (.lconst 0, 1, .null), some (.lreturn, 1, .null)]]
abbrev mX4_waysOf : Nat := 80
def rc_81 : ri_CD := [[some (.iconst 0, 1, .int (0)), some (.istore_n 1, 1, .null), some (.iload_n 1, 1, .null), some (.aload_n 0, 1, .null), some (.getfield 48, 3, .null), none, none, some (.arraylength, 1, .null), some (.if_icmp .ge 16, 3, .retAddr 24), none, none, some (.aload_n 0, 1, .null), some (.getfield 48, 3, .null), none, none, some (.iload_n 1, 1, .null)],
  [some (.lconst 0, 1, .null), some (.lastore, 1, .null), some (.iinc 1 1, 3, .int (1)), none, none, some (.goto (-19), 3, .retAddr 2), none, none, some (.iconst 0, 1, .int (0)), some (.istore_n 1, 1, .null), some (.iload_n 1, 1, .null), some (.bipush 24, 2, .int (24)), none, some (.if_icmp .ge 64, 3, .retAddr 93), none, none],
  [some (.aload_n 0, 1, .null), some (.getfield 28, 3, .null), none, none, some (.getfield 252, 3, .null), none, none, some (.iload_n 1, 1, .null), some (.invokestatic 99, 3, .null), none, none, some (.istore_n 2, 1, .null), some (.iload_n 2, 1, .null), some (.aload_n 0, 1, .null), some (.getfield 48, 3, .null), none],
  [none, some (.arraylength, 1, .null), some (.invokestatic 92, 3, .null), none, none, some (.ifCond .eq 34, 3, .retAddr 87), none, none, some (.iload_n 1, 1, .null), some (.iconst 2, 1, .int (2)), some (.idiv, 1, .null), some (.aload_n 0, 1, .null), some (.getfield 44, 3, .null), none, none, some (.arraylength, 1, .null)],
  [some (.invokestatic 92, 3, .null), none, none, some (.ifCond .eq 20, 3, .retAddr 87), none, none, some (.aload_n 0, 1, .null), some (.getfield 48, 3, .null), none, none, some (.iload_n 2, 1, .null), some (.dup2, 1, .null), some (.laload, 1, .null), some (.aload_n 0, 1, .null), some (.getfield 44, 3, .null), none],
  [none, some (.iload_n 1, 1, .null), some (.iconst 2, 1, .int (2)), some (.idiv, 1, .null), some (.laload, 1, .null), some (.ladd, 1, .null), some (.lastore, 1, .null), some (.iinc 1 1, 3, .int (1)), none, none, some (.goto (-64), 3, .retAddr 26), none, none, some (.iconst 0, 1, .int (0)), some (.istore_n 1, 1, .null), some (.iload_n 1, 1, .null)],
  [some (.aload_n 0, 1, .null), some (.getfield 44, 3, .null), none, none, some (.arraylength, 1, .null), some (.if_icmp .ge 30, 3, .retAddr 131), none, none, some (.iload_n 1, 1, .null), some (.aload_n 0, 1, .null), some (.getfield 48, 3, .null), none, none, some (.arraylength, 1, .null), some (.if_icmp .ge 21, 3, .retAddr 131), none],
  [none, some (.aload_n 0, 1, .null), some (.getfield 44, 3, .null), none, none, some (.iload_n 1, 1, .null), some (.aload_n 0, 1, .null), some (.getfield 48, 3, .null), none, none, some (.iload_n 1, 1, .null), some (.laload, 1, .null), some (.lastore, 1, .null), some (.iinc 1 1, 3, .int (1)), none, none],
  [some (.goto (-33), 3, .retAddr 95), none, none, some (.return_, 1, .null)]]
abbrev mX4_wayAYear : Nat := 81
def rc_82 : ri_CD := [[some (.aload_n 0, 1, .null), some (.getfield 55, 3, .null), none, none, some (.iconst (-1), 1, .int (-1)), some (.invokestatic 174, 3, .null), none, none, some (.iconst 0, 1, .int (0)), some (.istore_n 2, 1, .null), some (.iload_n 2, 1, .null), some (.bipush 12, 2, .int (12)), none, some (.if_icmp .ge 91, 3, .retAddr 104), none, none],
  [some (.aload_n 0, 1, .null), some (.getfield 51, 3, .null), none, none, some (.iload_n 2, 1, .null), some (.invokestatic 99, 3, .null), none, none, some (.istore_n 3, 1, .null), some (.iload_n 3, 1, .null), some (.iconst (-1), 1, .int (-1)), some (.if_icmp .eq 71, 3, .retAddr 98), none, none, some (.aload_n 0, 1, .null), some (.getfield 32, 3, .null)],
  [none, none, some (.getfield 158, 3, .null), none, none, some (.iload_n 1, 1, .null), some (.iload_n 2, 1, .null), some (.invokestatic 103, 3, .null), none, none, some (.aload_n 0, 1, .null), some (.getfield 32, 3, .null), none, none, some (.iload_n 1, 1, .null), some (.invokevirtual 119, 3, .null)],
  [none, none, some (.istore 4, 2, .null), none, some (.aload_n 0, 1, .null), some (.aload_n 0, 1, .null), some (.getfield 32, 3, .null), none, none, some (.getfield 252, 3, .null), none, none, some (.iconst 2, 1, .int (2)), some (.iload_n 2, 1, .null), some (.imul, 1, .null), some (.iload 4, 2, .null)],
  [none, some (.iadd, 1, .null), some (.invokestatic 99, 3, .null), none, none, some (.iload_n 3, 1, .null), some (.invokevirtual 264, 3, .null), none, none, some (.aload_n 0, 1, .null), some (.aload_n 0, 1, .null), some (.getfield 32, 3, .null), none, none, some (.getfield 252, 3, .null), none],
  [none, some (.iconst 2, 1, .int (2)), some (.iload_n 2, 1, .null), some (.imul, 1, .null), some (.iconst 1, 1, .int (1)), some (.iadd, 1, .null), some (.iload 4, 2, .null), none, some (.isub, 1, .null), some (.invokestatic 99, 3, .null), none, none, some (.iload_n 3, 1, .null), some (.iconst 1, 1, .int (1)), some (.iadd, 1, .null), some (.invokevirtual 264, 3, .null)],
  [none, none, some (.iinc 2 1, 3, .int (1)), none, none, some (.goto (-91), 3, .retAddr 10), none, none, some (.aload_n 0, 1, .null), some (.getfield 55, 3, .null), none, none, some (.aload_n 0, 1, .null), some (.getfield 51, 3, .null), none, none],
  [some (.invokestatic 267, 3, .null), none, none, some (.return_, 1, .null)]]
abbrev mX4_costAYear : Nat := 82
def rc_83 : ri_CD := [[some (.aload_n 0, 1, .null), some (.getfield 55, 3, .null), none, none, some (.iload_n 1, 1, .null), some (.invokestatic 99, 3, .null), none, none, some (.istore_n 3, 1, .null), some (.iload_n 3, 1, .null), some (.iconst (-1), 1, .int (-1)), some (.if_icmp .eq 8, 3, .retAddr 19), none, none, some (.iload_n 2, 1, .null), some (.iload_n 3, 1, .null)],
  [some (.if_icmp .ge 12, 3, .retAddr 28), none, none, some (.aload_n 0, 1, .null), some (.getfield 55, 3, .null), none, none, some (.iload_n 1, 1, .null), some (.iload_n 2, 1, .null), some (.invokestatic 103, 3, .null), none, none, some (.return_, 1, .null)]]
abbrev mX4_lessen : Nat := 83
def rc_84 : ri_CD := [[some (.lload_n 0, 1, .null), some (.lload_n 2, 1, .null), some (.invokestatic 271, 3, .null), none, none, some (.lstore 5, 2, .null), none, some (.iload 4, 2, .null), none, some (.ifCond .ne 7, 3, .retAddr 16), none, none, some (.lload_n 0, 1, .null), some (.goto 4, 3, .retAddr 17), none, none],
  [some (.lload_n 2, 1, .null), some (.lstore 7, 2, .null), none, some (.lload 5, 2, .null), none, some (.lconst 0, 1, .null), some (.lcmp, 1, .null), some (.ifCond .ne 8, 3, .retAddr 31), none, none, some (.lload 7, 2, .null), none, some (.goto 8, 3, .retAddr 36), none, none, some (.lload 7, 2, .null)],
  [none, some (.lload 5, 2, .null), none, some (.ldiv, 1, .null), some (.lreturn, 1, .null)]]
abbrev mX4_lowest : Nat := 84
def rc_85 : ri_CD := [[some (.lload_n 0, 1, .null), some (.lstore 4, 2, .null), none, some (.lload_n 2, 1, .null), some (.lstore 6, 2, .null), none, some (.iconst 0, 1, .int (0)), some (.istore 8, 2, .null), none, some (.iload 8, 2, .null), none, some (.sipush 200, 3, .int (200)), none, none, some (.if_icmp .ge 31, 3, .retAddr 45), none],
  [none, some (.lload 6, 2, .null), none, some (.lconst 0, 1, .null), some (.lcmp, 1, .null), some (.ifCond .eq 24, 3, .retAddr 45), none, none, some (.lload 4, 2, .null), none, some (.lload 6, 2, .null), none, some (.lrem, 1, .null), some (.lstore 9, 2, .null), none, some (.lload 6, 2, .null)],
  [none, some (.lstore 4, 2, .null), none, some (.lload 9, 2, .null), none, some (.lstore 6, 2, .null), none, some (.iinc 8 1, 3, .int (1)), none, none, some (.goto (-33), 3, .retAddr 9), none, none, some (.lload 4, 2, .null), none, some (.lreturn, 1, .null)]]
abbrev mX4_commonDivisor : Nat := 85
def rc_86 : ri_CD := [[some (.iload_n 0, 1, .null), some (.bipush 32, 2, .int (32)), none, some (.if_icmp .eq 9, 3, .retAddr 12), none, none, some (.iload_n 0, 1, .null), some (.bipush 10, 2, .int (10)), none, some (.if_icmp .ne 7, 3, .retAddr 16), none, none, some (.iconst 1, 1, .int (1)), some (.goto 4, 3, .retAddr 17), none, none],
  [some (.iconst 0, 1, .int (0)), some (.ireturn, 1, .null)]]
abbrev mX4_jarsBehind : Nat := 86
def rc_87 : ri_CD := [[some (.iconst (-1), 1, .int (-1)), some (.istore_n 2, 1, .null), some (.iconst 0, 1, .int (0)), some (.istore_n 3, 1, .null), some (.iconst 0, 1, .int (0)), some (.istore 4, 2, .null), none, some (.iload 4, 2, .null), none, some (.bipush 24, 2, .int (24)), none, some (.if_icmp .ge 53, 3, .retAddr 64), none, none, some (.aload_n 0, 1, .null), some (.getfield 28, 3, .null)],
  [none, none, some (.getfield 148, 3, .null), none, none, some (.iload 4, 2, .null), none, some (.invokestatic 99, 3, .null), none, none, some (.ifCond .le 32, 3, .retAddr 58), none, none, some (.aload_n 0, 1, .null), some (.getfield 28, 3, .null), none],
  [none, some (.iload_n 1, 1, .null), some (.iload 4, 2, .null), none, some (.invokevirtual 131, 3, .null), none, none, some (.istore 5, 2, .null), none, some (.iload_n 2, 1, .null), some (.iconst (-1), 1, .int (-1)), some (.if_icmp .eq 9, 3, .retAddr 52), none, none, some (.iload 5, 2, .null), none],
  [some (.iload_n 3, 1, .null), some (.if_icmp .le 9, 3, .retAddr 58), none, none, some (.iload 4, 2, .null), none, some (.istore_n 2, 1, .null), some (.iload 5, 2, .null), none, some (.istore_n 3, 1, .null), some (.iinc 4 1, 3, .int (1)), none, none, some (.goto (-54), 3, .retAddr 7), none, none],
  [some (.iload_n 2, 1, .null), some (.ireturn, 1, .null)]]
abbrev mX4_sweetestJar : Nat := 87
def rc_88 : ri_CD := [[some (.iconst (-1), 1, .int (-1)), some (.istore_n 1, 1, .null), some (.iconst 0, 1, .int (0)), some (.istore_n 2, 1, .null), some (.iconst 0, 1, .int (0)), some (.istore_n 3, 1, .null), some (.iload_n 3, 1, .null), some (.bipush 24, 2, .int (24)), none, some (.if_icmp .ge 33, 3, .retAddr 42), none, none, some (.aload_n 0, 1, .null), some (.getfield 28, 3, .null), none, none],
  [some (.getfield 148, 3, .null), none, none, some (.iload_n 3, 1, .null), some (.invokestatic 99, 3, .null), none, none, some (.istore 4, 2, .null), none, some (.iload 4, 2, .null), none, some (.iload_n 2, 1, .null), some (.if_icmp .le 8, 3, .retAddr 36), none, none, some (.iload_n 3, 1, .null)],
  [some (.istore_n 1, 1, .null), some (.iload 4, 2, .null), none, some (.istore_n 2, 1, .null), some (.iinc 3 1, 3, .int (1)), none, none, some (.goto (-33), 3, .retAddr 6), none, none, some (.iload_n 1, 1, .null), some (.ireturn, 1, .null)]]
abbrev mX4_fullestJar : Nat := 88
def rc_89 : ri_CD := [[some (.iload_n 0, 1, .null), some (.bipush 32, 2, .int (32)), none, some (.if_icmp .eq 9, 3, .retAddr 12), none, none, some (.iload_n 0, 1, .null), some (.bipush 10, 2, .int (10)), none, some (.if_icmp .ne 7, 3, .retAddr 16), none, none, some (.iconst 1, 1, .int (1)), some (.goto 4, 3, .retAddr 17), none, none],
  [some (.iconst 0, 1, .int (0)), some (.ireturn, 1, .null)]]
abbrev mX4_drawnTo : Nat := 89
def rc_90 : ri_CD := [[some (.iconst 0, 1, .int (0)), some (.istore 5, 2, .null), none, some (.iconst 0, 1, .int (0)), some (.istore 6, 2, .null), none, some (.iload 6, 2, .null), none, some (.iload 4, 2, .null), none, some (.if_icmp .ge 32, 3, .retAddr 42), none, none, some (.aload_n 0, 1, .null), some (.aload_n 1, 1, .null), some (.iload_n 2, 1, .null)],
  [some (.iload_n 3, 1, .null), some (.iload 6, 2, .null), none, some (.invokevirtual 201, 3, .null), none, none, some (.iconst (-1), 1, .int (-1)), some (.if_icmp .ne 13, 3, .retAddr 36), none, none, some (.iload 5, 2, .null), none, some (.iload 6, 2, .null), none, some (.invokestatic 161, 3, .null), none],
  [none, some (.ior, 1, .null), some (.istore 5, 2, .null), none, some (.iinc 6 1, 3, .int (1)), none, none, some (.goto (-33), 3, .retAddr 6), none, none, some (.iload 5, 2, .null), none, some (.ireturn, 1, .null)]]
abbrev mX4_toldBits : Nat := 90
def rc_91 : ri_CD := [[some (.aload_n 0, 1, .null), some (.getfield 10, 3, .null), none, none, some (.aload_n 0, 1, .null), some (.getfield 28, 3, .null), none, none, some (.getfield 138, 3, .null), none, none, some (.bipush (-5), 2, .int (-5)), none, some (.invokevirtual 279, 3, .null), none, none],
  [some (.istore 4, 2, .null), none, some (.iconst 0, 1, .int (0)), some (.istore 5, 2, .null), none, some (.iconst 0, 1, .int (0)), some (.istore 6, 2, .null), none, some (.bipush (-100), 2, .int (-100)), none, some (.istore 7, 2, .null), none, some (.bipush (-99), 2, .int (-99)), none, some (.istore 8, 2, .null), none],
  [some (.iload 8, 2, .null), none, some (.bipush 99, 2, .int (99)), none, some (.if_icmp .gt 68, 3, .retAddr 104), none, none, some (.iload 4, 2, .null), none, some (.ifCond .ne 15, 3, .retAddr 56), none, none, some (.iload 8, 2, .null), none, some (.bipush (-99), 2, .int (-99)), none],
  [some (.if_icmp .eq 8, 3, .retAddr 56), none, none, some (.iload 8, 2, .null), none, some (.ifCond .ne 23, 3, .retAddr 76), none, none, some (.aload_n 0, 1, .null), some (.aload_n 1, 1, .null), some (.iload_n 2, 1, .null), some (.iload_n 3, 1, .null), some (.iload 8, 2, .null), none, some (.invokevirtual 201, 3, .null), none],
  [none, some (.iconst (-1), 1, .int (-1)), some (.if_icmp .ne 7, 3, .retAddr 73), none, none, some (.iconst 1, 1, .int (1)), some (.goto 4, 3, .retAddr 74), none, none, some (.iconst 0, 1, .int (0)), some (.istore 5, 2, .null), none, some (.iload 5, 2, .null), none, some (.ifCond .eq 20, 3, .retAddr 98), none],
  [none, some (.iload 6, 2, .null), none, some (.ifCond .ne 8, 3, .retAddr 91), none, none, some (.iload 8, 2, .null), none, some (.goto 5, 3, .retAddr 93), none, none, some (.iload 7, 2, .null), none, some (.istore 7, 2, .null), none, some (.iinc 6 1, 3, .int (1))],
  [none, none, some (.iinc 8 1, 3, .int (1)), none, none, some (.goto (-69), 3, .retAddr 32), none, none, some (.iload_n 3, 1, .null), some (.iconst 4, 1, .int (4)), some (.if_icmp .ne 8, 3, .retAddr 114), none, none, some (.iload 6, 2, .null), none, some (.goto 5, 3, .retAddr 116)],
  [none, none, some (.iload 7, 2, .null), none, some (.ireturn, 1, .null)]]
abbrev mX4_toldMoods : Nat := 91
def rc_92 : ri_CD := [[some (.aload_n 0, 1, .null), some (.getfield 32, 3, .null), none, none, some (.aload_n 0, 1, .null), some (.getfield 28, 3, .null), none, none, some (.invokevirtual 154, 3, .null), none, none, some (.aload_n 0, 1, .null), some (.iload_n 2, 1, .null), some (.iload_n 3, 1, .null), some (.iload 4, 2, .null), none],
  [some (.invokevirtual 282, 3, .null), none, none, some (.istore 5, 2, .null), none, some (.iconst 0, 1, .int (0)), some (.istore 6, 2, .null), none, some (.iload 6, 2, .null), none, some (.aload_n 1, 1, .null), some (.getfield 198, 3, .null), none, none, some (.if_icmp .ge 52, 3, .retAddr 82), none],
  [none, some (.iload 6, 2, .null), none, some (.aload_n 1, 1, .null), some (.getfield 234, 3, .null), none, none, some (.arraylength, 1, .null), some (.if_icmp .ge 42, 3, .retAddr 82), none, none, some (.aload_n 0, 1, .null), some (.getfield 32, 3, .null), none, none, some (.iconst (-1), 1, .int (-1))],
  [some (.invokevirtual 141, 3, .null), none, none, some (.aload_n 0, 1, .null), some (.getfield 32, 3, .null), none, none, some (.getfield 158, 3, .null), none, none, some (.iload 5, 2, .null), none, some (.invokestatic 99, 3, .null), none, none, some (.aload_n 1, 1, .null)],
  [some (.getfield 234, 3, .null), none, none, some (.iload 6, 2, .null), none, some (.iaload, 1, .null), some (.if_icmp .eq 6, 3, .retAddr 76), none, none, some (.iload 6, 2, .null), none, some (.ireturn, 1, .null), some (.iinc 6 1, 3, .int (1)), none, none, some (.goto (-55), 3, .retAddr 24)],
  [none, none, some (.iconst (-1), 1, .int (-1)), some (.ireturn, 1, .null)]]
abbrev mX4_firstOtherwise : Nat := 92
def rc_93 : ri_CD := [[some (.iload_n 2, 1, .null), some (.tableswitch 111 1 7 #[43, 57, 71, 85, 85, 99, 109], 43, .null), none, none, none, none, none, none, none, none, none, none, none, none, none, none],
  [none, none, none, none, none, none, none, none, none, none, none, none, none, none, none, none],
  [none, none, none, none, none, none, none, none, none, none, none, none, some (.aload_n 0, 1, .null), some (.getfield 32, 3, .null), none, none],
  [some (.getfield 128, 3, .null), none, none, some (.iload_n 1, 1, .null), some (.iload_n 3, 1, .null), some (.invokestatic 103, 3, .null), none, none, some (.iload_n 1, 1, .null), some (.ireturn, 1, .null), some (.aload_n 0, 1, .null), some (.getfield 32, 3, .null), none, none, some (.getfield 249, 3, .null), none],
  [none, some (.iload_n 1, 1, .null), some (.iload_n 3, 1, .null), some (.invokestatic 103, 3, .null), none, none, some (.iload_n 1, 1, .null), some (.ireturn, 1, .null), some (.aload_n 0, 1, .null), some (.getfield 32, 3, .null), none, none, some (.getfield 158, 3, .null), none, none, some (.iload_n 1, 1, .null)],
  [some (.iload_n 3, 1, .null), some (.invokestatic 103, 3, .null), none, none, some (.iload_n 1, 1, .null), some (.ireturn, 1, .null), some (.aload_n 0, 1, .null), some (.getfield 32, 3, .null), none, none, some (.getfield 255, 3, .null), none, none, some (.iload_n 1, 1, .null), some (.iload_n 3, 1, .null), some (.invokestatic 103, 3, .null)],
  [none, none, some (.iload_n 1, 1, .null), some (.ireturn, 1, .null), some (.aload_n 0, 1, .null), some (.getfield 32, 3, .null), none, none, some (.iload_n 3, 1, .null), some (.putfield 138, 3, .null), none, none, some (.iload_n 1, 1, .null), some (.ireturn, 1, .null), some (.iload_n 3, 1, .null), some (.ireturn, 1, .null)],
  [some (.iload_n 1, 1, .null), some (.ireturn, 1, .null)]]
abbrev mX4_suppose : Nat := 93
def rc_94 : ri_CD := [[some (.iload_n 1, 1, .null), some (.aload_n 0, 1, .null), some (.getfield 40, 3, .null), none, none, some (.arraylength, 1, .null), some (.invokestatic 92, 3, .null), none, none, some (.ifCond .eq 12, 3, .retAddr 21), none, none, some (.aload_n 0, 1, .null), some (.getfield 40, 3, .null), none, none],
  [some (.iload_n 1, 1, .null), some (.aaload, 1, .null), some (.goto 4, 3, .retAddr 22), none, none, some (.aconst_null, 1, .null), some (.areturn, 1, .null)]]
abbrev mX4_sheetOf : Nat := 94
def rc_95 : ri_CD := [[some (.iload_n 0, 1, .null), some (.ifCond .lt 12, 3, .retAddr 13), none, none, some (.iload_n 0, 1, .null), some (.iload_n 1, 1, .null), some (.if_icmp .ge 7, 3, .retAddr 13), none, none, some (.iconst 1, 1, .int (1)), some (.goto 4, 3, .retAddr 14), none, none, some (.iconst 0, 1, .int (0)), some (.ireturn, 1, .null)]]
abbrev mX4_within : Nat := 95
def rc_96 : ri_CD := [[some (.iload_n 1, 1, .null), some (.iload_n 2, 1, .null), some (.iload_n 0, 1, .null), some (.invokestatic 285, 3, .null), none, none, some (.invokestatic 290, 3, .null), none, none, some (.ireturn, 1, .null)]]
abbrev mX4_held : Nat := 96
def rc_97 : ri_CD := [[some (.iload_n 0, 1, .null), some (.bipush 31, 2, .int (31)), none, some (.invokestatic 92, 3, .null), none, none, some (.ifCond .eq 9, 3, .retAddr 15), none, none, some (.iconst 1, 1, .int (1)), some (.iload_n 0, 1, .null), some (.ishl, 1, .null), some (.goto 4, 3, .retAddr 16), none, none, some (.iconst 0, 1, .int (0))],
  [some (.ireturn, 1, .null)]]
abbrev mX4_bit : Nat := 97
def rc_98 : ri_CD := [[some (.iload_n 1, 1, .null), some (.ifCond .lt 15, 3, .retAddr 16), none, none, some (.iload_n 1, 1, .null), some (.aload_n 0, 1, .null), some (.arraylength, 1, .null), some (.if_icmp .ge 9, 3, .retAddr 16), none, none, some (.aload_n 0, 1, .null), some (.iload_n 1, 1, .null), some (.iaload, 1, .null), some (.goto 4, 3, .retAddr 17), none, none],
  [some (.iconst 0, 1, .int (0)), some (.ireturn, 1, .null)]]
abbrev mX4_item : Nat := 98
def rc_99 : ri_CD := [[some (.iload_n 1, 1, .null), some (.ifCond .lt 13, 3, .retAddr 14), none, none, some (.iload_n 1, 1, .null), some (.aload_n 0, 1, .null), some (.arraylength, 1, .null), some (.if_icmp .ge 7, 3, .retAddr 14), none, none, some (.aload_n 0, 1, .null), some (.iload_n 1, 1, .null), some (.iload_n 2, 1, .null), some (.iastore, 1, .null), some (.return_, 1, .null)]]
abbrev mX4_putItem : Nat := 99
def rc_100 : ri_CD := [[some (.iconst 0, 1, .int (0)), some (.istore_n 2, 1, .null), some (.iload_n 2, 1, .null), some (.aload_n 0, 1, .null), some (.arraylength, 1, .null), some (.if_icmp .ge 13, 3, .retAddr 18), none, none, some (.aload_n 0, 1, .null), some (.iload_n 2, 1, .null), some (.iload_n 1, 1, .null), some (.iastore, 1, .null), some (.iinc 2 1, 3, .int (1)), none, none, some (.goto (-13), 3, .retAddr 2)],
  [none, none, some (.return_, 1, .null)]]
abbrev mX4_fill : Nat := 100
def rc_101 : ri_CD := [[some (.iconst 0, 1, .int (0)), some (.istore_n 2, 1, .null), some (.iload_n 2, 1, .null), some (.aload_n 0, 1, .null), some (.arraylength, 1, .null), some (.if_icmp .ge 21, 3, .retAddr 26), none, none, some (.iload_n 2, 1, .null), some (.aload_n 1, 1, .null), some (.arraylength, 1, .null), some (.if_icmp .ge 15, 3, .retAddr 26), none, none, some (.aload_n 1, 1, .null), some (.iload_n 2, 1, .null)],
  [some (.aload_n 0, 1, .null), some (.iload_n 2, 1, .null), some (.iaload, 1, .null), some (.iastore, 1, .null), some (.iinc 2 1, 3, .int (1)), none, none, some (.goto (-21), 3, .retAddr 2), none, none, some (.return_, 1, .null)]]
abbrev mX4_copyRow : Nat := 101
def rc_102 : ri_CD := [[some (.iload_n 0, 1, .null), some (.bipush 32, 2, .int (32)), none, some (.if_icmp .eq 9, 3, .retAddr 12), none, none, some (.iload_n 0, 1, .null), some (.bipush 10, 2, .int (10)), none, some (.if_icmp .ne 7, 3, .retAddr 16), none, none, some (.iconst 1, 1, .int (1)), some (.goto 4, 3, .retAddr 17), none, none],
  [some (.iconst 0, 1, .int (0)), some (.ireturn, 1, .null)]]
abbrev mX5_in : Nat := 102
def rc_103 : ri_CD := [[some (.iload_n 0, 1, .null), some (.bipush 32, 2, .int (32)), none, some (.if_icmp .eq 9, 3, .retAddr 12), none, none, some (.iload_n 0, 1, .null), some (.bipush 10, 2, .int (10)), none, some (.if_icmp .ne 7, 3, .retAddr 16), none, none, some (.iconst 1, 1, .int (1)), some (.goto 4, 3, .retAddr 17), none, none],
  [some (.iconst 0, 1, .int (0)), some (.ireturn, 1, .null)]]
abbrev mX5_within : Nat := 103
def rc_104 : ri_CD := [[some (.iload_n 0, 1, .null), some (.bipush 32, 2, .int (32)), none, some (.if_icmp .eq 9, 3, .retAddr 12), none, none, some (.iload_n 0, 1, .null), some (.bipush 10, 2, .int (10)), none, some (.if_icmp .ne 7, 3, .retAddr 16), none, none, some (.iconst 1, 1, .int (1)), some (.goto 4, 3, .retAddr 17), none, none],
  [some (.iconst 0, 1, .int (0)), some (.ireturn, 1, .null)]]
abbrev mX5_isOne : Nat := 104
def rc_105 : ri_CD := [[some (.iload_n 0, 1, .null), some (.bipush 32, 2, .int (32)), none, some (.if_icmp .eq 9, 3, .retAddr 12), none, none, some (.iload_n 0, 1, .null), some (.bipush 10, 2, .int (10)), none, some (.if_icmp .ne 7, 3, .retAddr 16), none, none, some (.iconst 1, 1, .int (1)), some (.goto 4, 3, .retAddr 17), none, none],
  [some (.iconst 0, 1, .int (0)), some (.ireturn, 1, .null)]]
abbrev mX5_isCrossing : Nat := 105
def rc_106 : ri_CD := [[some (.iload_n 0, 1, .null), some (.bipush 32, 2, .int (32)), none, some (.if_icmp .eq 9, 3, .retAddr 12), none, none, some (.iload_n 0, 1, .null), some (.bipush 10, 2, .int (10)), none, some (.if_icmp .ne 7, 3, .retAddr 16), none, none, some (.iconst 1, 1, .int (1)), some (.goto 4, 3, .retAddr 17), none, none],
  [some (.iconst 0, 1, .int (0)), some (.ireturn, 1, .null)]]
abbrev mX5_isJar : Nat := 106
def rc_107 : ri_CD := [[some (.iload_n 0, 1, .null), some (.bipush 32, 2, .int (32)), none, some (.if_icmp .eq 9, 3, .retAddr 12), none, none, some (.iload_n 0, 1, .null), some (.bipush 10, 2, .int (10)), none, some (.if_icmp .ne 7, 3, .retAddr 16), none, none, some (.iconst 1, 1, .int (1)), some (.goto 4, 3, .retAddr 17), none, none],
  [some (.iconst 0, 1, .int (0)), some (.ireturn, 1, .null)]]
abbrev mX5_isOf : Nat := 107
def rc_108 : ri_CD := [[some (.iload_n 0, 1, .null), some (.bipush 32, 2, .int (32)), none, some (.if_icmp .eq 9, 3, .retAddr 12), none, none, some (.iload_n 0, 1, .null), some (.bipush 10, 2, .int (10)), none, some (.if_icmp .ne 7, 3, .retAddr 16), none, none, some (.iconst 1, 1, .int (1)), some (.goto 4, 3, .retAddr 17), none, none],
  [some (.iconst 0, 1, .int (0)), some (.ireturn, 1, .null)]]
abbrev mX5_mostOf : Nat := 108
def rc_109 : ri_CD := [[some (.iload_n 0, 1, .null), some (.bipush 32, 2, .int (32)), none, some (.if_icmp .eq 9, 3, .retAddr 12), none, none, some (.iload_n 0, 1, .null), some (.bipush 10, 2, .int (10)), none, some (.if_icmp .ne 7, 3, .retAddr 16), none, none, some (.iconst 1, 1, .int (1)), some (.goto 4, 3, .retAddr 17), none, none],
  [some (.iconst 0, 1, .int (0)), some (.ireturn, 1, .null)]]
abbrev mX5_set : Nat := 109
def rc_110 : ri_CD := [[some (.iload_n 0, 1, .null), some (.bipush 32, 2, .int (32)), none, some (.if_icmp .eq 9, 3, .retAddr 12), none, none, some (.iload_n 0, 1, .null), some (.bipush 10, 2, .int (10)), none, some (.if_icmp .ne 7, 3, .retAddr 16), none, none, some (.iconst 1, 1, .int (1)), some (.goto 4, 3, .retAddr 17), none, none],
  [some (.iconst 0, 1, .int (0)), some (.ireturn, 1, .null)]]
abbrev mX5_lays : Nat := 110
def rc_111 : ri_CD := [[some (.iload_n 0, 1, .null), some (.bipush 32, 2, .int (32)), none, some (.if_icmp .eq 9, 3, .retAddr 12), none, none, some (.iload_n 0, 1, .null), some (.bipush 10, 2, .int (10)), none, some (.if_icmp .ne 7, 3, .retAddr 16), none, none, some (.iconst 1, 1, .int (1)), some (.goto 4, 3, .retAddr 17), none, none],
  [some (.iconst 0, 1, .int (0)), some (.ireturn, 1, .null)]]
abbrev mX5_life : Nat := 111
def rc_112 : ri_CD := [[some (.iload_n 0, 1, .null), some (.bipush 32, 2, .int (32)), none, some (.if_icmp .eq 9, 3, .retAddr 12), none, none, some (.iload_n 0, 1, .null), some (.bipush 10, 2, .int (10)), none, some (.if_icmp .ne 7, 3, .retAddr 16), none, none, some (.iconst 1, 1, .int (1)), some (.goto 4, 3, .retAddr 17), none, none],
  [some (.iconst 0, 1, .int (0)), some (.ireturn, 1, .null)]]
abbrev mX5_told : Nat := 112
def rc_113 : ri_CD := [[some (.iload_n 0, 1, .null), some (.bipush 32, 2, .int (32)), none, some (.if_icmp .eq 9, 3, .retAddr 12), none, none, some (.iload_n 0, 1, .null), some (.bipush 10, 2, .int (10)), none, some (.if_icmp .ne 7, 3, .retAddr 16), none, none, some (.iconst 1, 1, .int (1)), some (.goto 4, 3, .retAddr 17), none, none],
  [some (.iconst 0, 1, .int (0)), some (.ireturn, 1, .null)]]
abbrev mX5_whoAt : Nat := 113
def rc_114 : ri_CD := [[some (.iload_n 0, 1, .null), some (.bipush 32, 2, .int (32)), none, some (.if_icmp .eq 9, 3, .retAddr 12), none, none, some (.iload_n 0, 1, .null), some (.bipush 10, 2, .int (10)), none, some (.if_icmp .ne 7, 3, .retAddr 16), none, none, some (.iconst 1, 1, .int (1)), some (.goto 4, 3, .retAddr 17), none, none],
  [some (.iconst 0, 1, .int (0)), some (.ireturn, 1, .null)]]
abbrev mX5_atOf : Nat := 114
def rc_115 : ri_CD := [[some (.iload_n 0, 1, .null), some (.bipush 32, 2, .int (32)), none, some (.if_icmp .eq 9, 3, .retAddr 12), none, none, some (.iload_n 0, 1, .null), some (.bipush 10, 2, .int (10)), none, some (.if_icmp .ne 7, 3, .retAddr 16), none, none, some (.iconst 1, 1, .int (1)), some (.goto 4, 3, .retAddr 17), none, none],
  [some (.iconst 0, 1, .int (0)), some (.ireturn, 1, .null)]]
abbrev mX5_feed : Nat := 115
def rc_116 : ri_CD := [[some (.iload_n 0, 1, .null), some (.bipush 32, 2, .int (32)), none, some (.if_icmp .eq 9, 3, .retAddr 12), none, none, some (.iload_n 0, 1, .null), some (.bipush 10, 2, .int (10)), none, some (.if_icmp .ne 7, 3, .retAddr 16), none, none, some (.iconst 1, 1, .int (1)), some (.goto 4, 3, .retAddr 17), none, none],
  [some (.iconst 0, 1, .int (0)), some (.ireturn, 1, .null)]]
abbrev mX5_byteAt : Nat := 116
def rc_117 : ri_CD := [[some (.iload_n 0, 1, .null), some (.bipush 32, 2, .int (32)), none, some (.if_icmp .eq 9, 3, .retAddr 12), none, none, some (.iload_n 0, 1, .null), some (.bipush 10, 2, .int (10)), none, some (.if_icmp .ne 7, 3, .retAddr 16), none, none, some (.iconst 1, 1, .int (1)), some (.goto 4, 3, .retAddr 17), none, none],
  [some (.iconst 0, 1, .int (0)), some (.ireturn, 1, .null)]]
abbrev mX5_next : Nat := 117
def rc_118 : ri_CD := [[some (.iload_n 0, 1, .null), some (.bipush 32, 2, .int (32)), none, some (.if_icmp .eq 9, 3, .retAddr 12), none, none, some (.iload_n 0, 1, .null), some (.bipush 10, 2, .int (10)), none, some (.if_icmp .ne 7, 3, .retAddr 16), none, none, some (.iconst 1, 1, .int (1)), some (.goto 4, 3, .retAddr 17), none, none],
  [some (.iconst 0, 1, .int (0)), some (.ireturn, 1, .null)]]
abbrev mX5_fail : Nat := 118
def rc_119 : ri_CD := [[some (.iload_n 0, 1, .null), some (.bipush 32, 2, .int (32)), none, some (.if_icmp .eq 9, 3, .retAddr 12), none, none, some (.iload_n 0, 1, .null), some (.bipush 10, 2, .int (10)), none, some (.if_icmp .ne 7, 3, .retAddr 16), none, none, some (.iconst 1, 1, .int (1)), some (.goto 4, 3, .retAddr 17), none, none],
  [some (.iconst 0, 1, .int (0)), some (.ireturn, 1, .null)]]
abbrev mX5_isLetter : Nat := 119
def rc_120 : ri_CD := [[some (.iload_n 0, 1, .null), some (.bipush 32, 2, .int (32)), none, some (.if_icmp .eq 9, 3, .retAddr 12), none, none, some (.iload_n 0, 1, .null), some (.bipush 10, 2, .int (10)), none, some (.if_icmp .ne 7, 3, .retAddr 16), none, none, some (.iconst 1, 1, .int (1)), some (.goto 4, 3, .retAddr 17), none, none],
  [some (.iconst 0, 1, .int (0)), some (.ireturn, 1, .null)]]
abbrev mX5_isWord : Nat := 120
def rc_121 : ri_CD := [[some (.iload_n 0, 1, .null), some (.bipush 32, 2, .int (32)), none, some (.if_icmp .eq 9, 3, .retAddr 12), none, none, some (.iload_n 0, 1, .null), some (.bipush 10, 2, .int (10)), none, some (.if_icmp .ne 7, 3, .retAddr 16), none, none, some (.iconst 1, 1, .int (1)), some (.goto 4, 3, .retAddr 17), none, none],
  [some (.iconst 0, 1, .int (0)), some (.ireturn, 1, .null)]]
abbrev mX5_isSign : Nat := 121
def rc_122 : ri_CD := [[some (.iload_n 0, 1, .null), some (.bipush 32, 2, .int (32)), none, some (.if_icmp .eq 9, 3, .retAddr 12), none, none, some (.iload_n 0, 1, .null), some (.bipush 10, 2, .int (10)), none, some (.if_icmp .ne 7, 3, .retAddr 16), none, none, some (.iconst 1, 1, .int (1)), some (.goto 4, 3, .retAddr 17), none, none],
  [some (.iconst 0, 1, .int (0)), some (.ireturn, 1, .null)]]
abbrev mX5_opens : Nat := 122
def rc_123 : ri_CD := [[some (.iload_n 0, 1, .null), some (.bipush 32, 2, .int (32)), none, some (.if_icmp .eq 9, 3, .retAddr 12), none, none, some (.iload_n 0, 1, .null), some (.bipush 10, 2, .int (10)), none, some (.if_icmp .ne 7, 3, .retAddr 16), none, none, some (.iconst 1, 1, .int (1)), some (.goto 4, 3, .retAddr 17), none, none],
  [some (.iconst 0, 1, .int (0)), some (.ireturn, 1, .null)]]
abbrev mX5_name : Nat := 123
def rc_124 : ri_CD := [[some (.iload_n 0, 1, .null), some (.bipush 32, 2, .int (32)), none, some (.if_icmp .eq 9, 3, .retAddr 12), none, none, some (.iload_n 0, 1, .null), some (.bipush 10, 2, .int (10)), none, some (.if_icmp .ne 7, 3, .retAddr 16), none, none, some (.iconst 1, 1, .int (1)), some (.goto 4, 3, .retAddr 17), none, none],
  [some (.iconst 0, 1, .int (0)), some (.ireturn, 1, .null)]]
abbrev mX5_atom5 : Nat := 124
def rc_125 : ri_CD := [[some (.iload_n 0, 1, .null), some (.bipush 32, 2, .int (32)), none, some (.if_icmp .eq 9, 3, .retAddr 12), none, none, some (.iload_n 0, 1, .null), some (.bipush 10, 2, .int (10)), none, some (.if_icmp .ne 7, 3, .retAddr 16), none, none, some (.iconst 1, 1, .int (1)), some (.goto 4, 3, .retAddr 17), none, none],
  [some (.iconst 0, 1, .int (0)), some (.ireturn, 1, .null)]]
abbrev mX5_term5 : Nat := 125
def rc_126 : ri_CD := [[some (.iload_n 0, 1, .null), some (.bipush 32, 2, .int (32)), none, some (.if_icmp .eq 9, 3, .retAddr 12), none, none, some (.iload_n 0, 1, .null), some (.bipush 10, 2, .int (10)), none, some (.if_icmp .ne 7, 3, .retAddr 16), none, none, some (.iconst 1, 1, .int (1)), some (.goto 4, 3, .retAddr 17), none, none],
  [some (.iconst 0, 1, .int (0)), some (.ireturn, 1, .null)]]
abbrev mX5_added5 : Nat := 126
def rc_127 : ri_CD := [[some (.iload_n 0, 1, .null), some (.bipush 32, 2, .int (32)), none, some (.if_icmp .eq 9, 3, .retAddr 12), none, none, some (.iload_n 0, 1, .null), some (.bipush 10, 2, .int (10)), none, some (.if_icmp .ne 7, 3, .retAddr 16), none, none, some (.iconst 1, 1, .int (1)), some (.goto 4, 3, .retAddr 17), none, none],
  [some (.iconst 0, 1, .int (0)), some (.ireturn, 1, .null)]]
abbrev mX5_not5 : Nat := 127
def rc_128 : ri_CD := [[some (.iload_n 0, 1, .null), some (.bipush 32, 2, .int (32)), none, some (.if_icmp .eq 9, 3, .retAddr 12), none, none, some (.iload_n 0, 1, .null), some (.bipush 10, 2, .int (10)), none, some (.if_icmp .ne 7, 3, .retAddr 16), none, none, some (.iconst 1, 1, .int (1)), some (.goto 4, 3, .retAddr 17), none, none],
  [some (.iconst 0, 1, .int (0)), some (.ireturn, 1, .null)]]
abbrev mX5_both5 : Nat := 128
def rc_129 : ri_CD := [[some (.iload_n 0, 1, .null), some (.bipush 32, 2, .int (32)), none, some (.if_icmp .eq 9, 3, .retAddr 12), none, none, some (.iload_n 0, 1, .null), some (.bipush 10, 2, .int (10)), none, some (.if_icmp .ne 7, 3, .retAddr 16), none, none, some (.iconst 1, 1, .int (1)), some (.goto 4, 3, .retAddr 17), none, none],
  [some (.iconst 0, 1, .int (0)), some (.ireturn, 1, .null)]]
abbrev mX5_either5 : Nat := 129
def rc_130 : ri_CD := [[some (.iload_n 0, 1, .null), some (.bipush 32, 2, .int (32)), none, some (.if_icmp .eq 9, 3, .retAddr 12), none, none, some (.iload_n 0, 1, .null), some (.bipush 10, 2, .int (10)), none, some (.if_icmp .ne 7, 3, .retAddr 16), none, none, some (.iconst 1, 1, .int (1)), some (.goto 4, 3, .retAddr 17), none, none],
  [some (.iconst 0, 1, .int (0)), some (.ireturn, 1, .null)]]
abbrev mX5_atom4 : Nat := 130
def rc_131 : ri_CD := [[some (.iload_n 0, 1, .null), some (.bipush 32, 2, .int (32)), none, some (.if_icmp .eq 9, 3, .retAddr 12), none, none, some (.iload_n 0, 1, .null), some (.bipush 10, 2, .int (10)), none, some (.if_icmp .ne 7, 3, .retAddr 16), none, none, some (.iconst 1, 1, .int (1)), some (.goto 4, 3, .retAddr 17), none, none],
  [some (.iconst 0, 1, .int (0)), some (.ireturn, 1, .null)]]
abbrev mX5_term4 : Nat := 131
def rc_132 : ri_CD := [[some (.iload_n 0, 1, .null), some (.bipush 32, 2, .int (32)), none, some (.if_icmp .eq 9, 3, .retAddr 12), none, none, some (.iload_n 0, 1, .null), some (.bipush 10, 2, .int (10)), none, some (.if_icmp .ne 7, 3, .retAddr 16), none, none, some (.iconst 1, 1, .int (1)), some (.goto 4, 3, .retAddr 17), none, none],
  [some (.iconst 0, 1, .int (0)), some (.ireturn, 1, .null)]]
abbrev mX5_added4 : Nat := 132
def rc_133 : ri_CD := [[some (.iload_n 0, 1, .null), some (.bipush 32, 2, .int (32)), none, some (.if_icmp .eq 9, 3, .retAddr 12), none, none, some (.iload_n 0, 1, .null), some (.bipush 10, 2, .int (10)), none, some (.if_icmp .ne 7, 3, .retAddr 16), none, none, some (.iconst 1, 1, .int (1)), some (.goto 4, 3, .retAddr 17), none, none],
  [some (.iconst 0, 1, .int (0)), some (.ireturn, 1, .null)]]
abbrev mX5_not4 : Nat := 133
def rc_134 : ri_CD := [[some (.iload_n 0, 1, .null), some (.bipush 32, 2, .int (32)), none, some (.if_icmp .eq 9, 3, .retAddr 12), none, none, some (.iload_n 0, 1, .null), some (.bipush 10, 2, .int (10)), none, some (.if_icmp .ne 7, 3, .retAddr 16), none, none, some (.iconst 1, 1, .int (1)), some (.goto 4, 3, .retAddr 17), none, none],
  [some (.iconst 0, 1, .int (0)), some (.ireturn, 1, .null)]]
abbrev mX5_both4 : Nat := 134
def rc_135 : ri_CD := [[some (.iload_n 0, 1, .null), some (.bipush 32, 2, .int (32)), none, some (.if_icmp .eq 9, 3, .retAddr 12), none, none, some (.iload_n 0, 1, .null), some (.bipush 10, 2, .int (10)), none, some (.if_icmp .ne 7, 3, .retAddr 16), none, none, some (.iconst 1, 1, .int (1)), some (.goto 4, 3, .retAddr 17), none, none],
  [some (.iconst 0, 1, .int (0)), some (.ireturn, 1, .null)]]
abbrev mX5_either4 : Nat := 135
def rc_136 : ri_CD := [[some (.iload_n 0, 1, .null), some (.bipush 32, 2, .int (32)), none, some (.if_icmp .eq 9, 3, .retAddr 12), none, none, some (.iload_n 0, 1, .null), some (.bipush 10, 2, .int (10)), none, some (.if_icmp .ne 7, 3, .retAddr 16), none, none, some (.iconst 1, 1, .int (1)), some (.goto 4, 3, .retAddr 17), none, none],
  [some (.iconst 0, 1, .int (0)), some (.ireturn, 1, .null)]]
abbrev mX5_atom3 : Nat := 136
def rc_137 : ri_CD := [[some (.iload_n 0, 1, .null), some (.bipush 32, 2, .int (32)), none, some (.if_icmp .eq 9, 3, .retAddr 12), none, none, some (.iload_n 0, 1, .null), some (.bipush 10, 2, .int (10)), none, some (.if_icmp .ne 7, 3, .retAddr 16), none, none, some (.iconst 1, 1, .int (1)), some (.goto 4, 3, .retAddr 17), none, none],
  [some (.iconst 0, 1, .int (0)), some (.ireturn, 1, .null)]]
abbrev mX5_term3 : Nat := 137
def rc_138 : ri_CD := [[some (.iload_n 0, 1, .null), some (.bipush 32, 2, .int (32)), none, some (.if_icmp .eq 9, 3, .retAddr 12), none, none, some (.iload_n 0, 1, .null), some (.bipush 10, 2, .int (10)), none, some (.if_icmp .ne 7, 3, .retAddr 16), none, none, some (.iconst 1, 1, .int (1)), some (.goto 4, 3, .retAddr 17), none, none],
  [some (.iconst 0, 1, .int (0)), some (.ireturn, 1, .null)]]
abbrev mX5_added3 : Nat := 138
def rc_139 : ri_CD := [[some (.iload_n 0, 1, .null), some (.bipush 32, 2, .int (32)), none, some (.if_icmp .eq 9, 3, .retAddr 12), none, none, some (.iload_n 0, 1, .null), some (.bipush 10, 2, .int (10)), none, some (.if_icmp .ne 7, 3, .retAddr 16), none, none, some (.iconst 1, 1, .int (1)), some (.goto 4, 3, .retAddr 17), none, none],
  [some (.iconst 0, 1, .int (0)), some (.ireturn, 1, .null)]]
abbrev mX5_not3 : Nat := 139
def rc_140 : ri_CD := [[some (.iload_n 0, 1, .null), some (.bipush 32, 2, .int (32)), none, some (.if_icmp .eq 9, 3, .retAddr 12), none, none, some (.iload_n 0, 1, .null), some (.bipush 10, 2, .int (10)), none, some (.if_icmp .ne 7, 3, .retAddr 16), none, none, some (.iconst 1, 1, .int (1)), some (.goto 4, 3, .retAddr 17), none, none],
  [some (.iconst 0, 1, .int (0)), some (.ireturn, 1, .null)]]
abbrev mX5_both3 : Nat := 140
def rc_141 : ri_CD := [[some (.iload_n 0, 1, .null), some (.bipush 32, 2, .int (32)), none, some (.if_icmp .eq 9, 3, .retAddr 12), none, none, some (.iload_n 0, 1, .null), some (.bipush 10, 2, .int (10)), none, some (.if_icmp .ne 7, 3, .retAddr 16), none, none, some (.iconst 1, 1, .int (1)), some (.goto 4, 3, .retAddr 17), none, none],
  [some (.iconst 0, 1, .int (0)), some (.ireturn, 1, .null)]]
abbrev mX5_either3 : Nat := 141
def rc_142 : ri_CD := [[some (.iload_n 0, 1, .null), some (.bipush 32, 2, .int (32)), none, some (.if_icmp .eq 9, 3, .retAddr 12), none, none, some (.iload_n 0, 1, .null), some (.bipush 10, 2, .int (10)), none, some (.if_icmp .ne 7, 3, .retAddr 16), none, none, some (.iconst 1, 1, .int (1)), some (.goto 4, 3, .retAddr 17), none, none],
  [some (.iconst 0, 1, .int (0)), some (.ireturn, 1, .null)]]
abbrev mX5_atom2 : Nat := 142
def rc_143 : ri_CD := [[some (.iload_n 0, 1, .null), some (.bipush 32, 2, .int (32)), none, some (.if_icmp .eq 9, 3, .retAddr 12), none, none, some (.iload_n 0, 1, .null), some (.bipush 10, 2, .int (10)), none, some (.if_icmp .ne 7, 3, .retAddr 16), none, none, some (.iconst 1, 1, .int (1)), some (.goto 4, 3, .retAddr 17), none, none],
  [some (.iconst 0, 1, .int (0)), some (.ireturn, 1, .null)]]
abbrev mX5_term2 : Nat := 143
def rc_144 : ri_CD := [[some (.iload_n 0, 1, .null), some (.bipush 32, 2, .int (32)), none, some (.if_icmp .eq 9, 3, .retAddr 12), none, none, some (.iload_n 0, 1, .null), some (.bipush 10, 2, .int (10)), none, some (.if_icmp .ne 7, 3, .retAddr 16), none, none, some (.iconst 1, 1, .int (1)), some (.goto 4, 3, .retAddr 17), none, none],
  [some (.iconst 0, 1, .int (0)), some (.ireturn, 1, .null)]]
abbrev mX5_added2 : Nat := 144
def rc_145 : ri_CD := [[some (.iload_n 0, 1, .null), some (.bipush 32, 2, .int (32)), none, some (.if_icmp .eq 9, 3, .retAddr 12), none, none, some (.iload_n 0, 1, .null), some (.bipush 10, 2, .int (10)), none, some (.if_icmp .ne 7, 3, .retAddr 16), none, none, some (.iconst 1, 1, .int (1)), some (.goto 4, 3, .retAddr 17), none, none],
  [some (.iconst 0, 1, .int (0)), some (.ireturn, 1, .null)]]
abbrev mX5_not2 : Nat := 145
def rc_146 : ri_CD := [[some (.iload_n 0, 1, .null), some (.bipush 32, 2, .int (32)), none, some (.if_icmp .eq 9, 3, .retAddr 12), none, none, some (.iload_n 0, 1, .null), some (.bipush 10, 2, .int (10)), none, some (.if_icmp .ne 7, 3, .retAddr 16), none, none, some (.iconst 1, 1, .int (1)), some (.goto 4, 3, .retAddr 17), none, none],
  [some (.iconst 0, 1, .int (0)), some (.ireturn, 1, .null)]]
abbrev mX5_both2 : Nat := 146
def rc_147 : ri_CD := [[some (.iload_n 0, 1, .null), some (.bipush 32, 2, .int (32)), none, some (.if_icmp .eq 9, 3, .retAddr 12), none, none, some (.iload_n 0, 1, .null), some (.bipush 10, 2, .int (10)), none, some (.if_icmp .ne 7, 3, .retAddr 16), none, none, some (.iconst 1, 1, .int (1)), some (.goto 4, 3, .retAddr 17), none, none],
  [some (.iconst 0, 1, .int (0)), some (.ireturn, 1, .null)]]
abbrev mX5_either2 : Nat := 147
def rc_148 : ri_CD := [[some (.iload_n 0, 1, .null), some (.bipush 32, 2, .int (32)), none, some (.if_icmp .eq 9, 3, .retAddr 12), none, none, some (.iload_n 0, 1, .null), some (.bipush 10, 2, .int (10)), none, some (.if_icmp .ne 7, 3, .retAddr 16), none, none, some (.iconst 1, 1, .int (1)), some (.goto 4, 3, .retAddr 17), none, none],
  [some (.iconst 0, 1, .int (0)), some (.ireturn, 1, .null)]]
abbrev mX5_atom1 : Nat := 148
def rc_149 : ri_CD := [[some (.iload_n 0, 1, .null), some (.bipush 32, 2, .int (32)), none, some (.if_icmp .eq 9, 3, .retAddr 12), none, none, some (.iload_n 0, 1, .null), some (.bipush 10, 2, .int (10)), none, some (.if_icmp .ne 7, 3, .retAddr 16), none, none, some (.iconst 1, 1, .int (1)), some (.goto 4, 3, .retAddr 17), none, none],
  [some (.iconst 0, 1, .int (0)), some (.ireturn, 1, .null)]]
abbrev mX5_term1 : Nat := 149
def rc_150 : ri_CD := [[some (.iload_n 0, 1, .null), some (.bipush 32, 2, .int (32)), none, some (.if_icmp .eq 9, 3, .retAddr 12), none, none, some (.iload_n 0, 1, .null), some (.bipush 10, 2, .int (10)), none, some (.if_icmp .ne 7, 3, .retAddr 16), none, none, some (.iconst 1, 1, .int (1)), some (.goto 4, 3, .retAddr 17), none, none],
  [some (.iconst 0, 1, .int (0)), some (.ireturn, 1, .null)]]
abbrev mX5_added1 : Nat := 150
def rc_151 : ri_CD := [[some (.iload_n 0, 1, .null), some (.bipush 32, 2, .int (32)), none, some (.if_icmp .eq 9, 3, .retAddr 12), none, none, some (.iload_n 0, 1, .null), some (.bipush 10, 2, .int (10)), none, some (.if_icmp .ne 7, 3, .retAddr 16), none, none, some (.iconst 1, 1, .int (1)), some (.goto 4, 3, .retAddr 17), none, none],
  [some (.iconst 0, 1, .int (0)), some (.ireturn, 1, .null)]]
abbrev mX5_not1 : Nat := 151
def rc_152 : ri_CD := [[some (.iload_n 0, 1, .null), some (.bipush 32, 2, .int (32)), none, some (.if_icmp .eq 9, 3, .retAddr 12), none, none, some (.iload_n 0, 1, .null), some (.bipush 10, 2, .int (10)), none, some (.if_icmp .ne 7, 3, .retAddr 16), none, none, some (.iconst 1, 1, .int (1)), some (.goto 4, 3, .retAddr 17), none, none],
  [some (.iconst 0, 1, .int (0)), some (.ireturn, 1, .null)]]
abbrev mX5_both1 : Nat := 152
def rc_153 : ri_CD := [[some (.iload_n 0, 1, .null), some (.bipush 32, 2, .int (32)), none, some (.if_icmp .eq 9, 3, .retAddr 12), none, none, some (.iload_n 0, 1, .null), some (.bipush 10, 2, .int (10)), none, some (.if_icmp .ne 7, 3, .retAddr 16), none, none, some (.iconst 1, 1, .int (1)), some (.goto 4, 3, .retAddr 17), none, none],
  [some (.iconst 0, 1, .int (0)), some (.ireturn, 1, .null)]]
abbrev mX5_either1 : Nat := 153
def rc_154 : ri_CD := [[some (.iload_n 0, 1, .null), some (.bipush 32, 2, .int (32)), none, some (.if_icmp .eq 9, 3, .retAddr 12), none, none, some (.iload_n 0, 1, .null), some (.bipush 10, 2, .int (10)), none, some (.if_icmp .ne 7, 3, .retAddr 16), none, none, some (.iconst 1, 1, .int (1)), some (.goto 4, 3, .retAddr 17), none, none],
  [some (.iconst 0, 1, .int (0)), some (.ireturn, 1, .null)]]
abbrev mX5_atom0 : Nat := 154
def rc_155 : ri_CD := [[some (.iload_n 0, 1, .null), some (.bipush 32, 2, .int (32)), none, some (.if_icmp .eq 9, 3, .retAddr 12), none, none, some (.iload_n 0, 1, .null), some (.bipush 10, 2, .int (10)), none, some (.if_icmp .ne 7, 3, .retAddr 16), none, none, some (.iconst 1, 1, .int (1)), some (.goto 4, 3, .retAddr 17), none, none],
  [some (.iconst 0, 1, .int (0)), some (.ireturn, 1, .null)]]
abbrev mX5_term0 : Nat := 155
def rc_156 : ri_CD := [[some (.iload_n 0, 1, .null), some (.bipush 32, 2, .int (32)), none, some (.if_icmp .eq 9, 3, .retAddr 12), none, none, some (.iload_n 0, 1, .null), some (.bipush 10, 2, .int (10)), none, some (.if_icmp .ne 7, 3, .retAddr 16), none, none, some (.iconst 1, 1, .int (1)), some (.goto 4, 3, .retAddr 17), none, none],
  [some (.iconst 0, 1, .int (0)), some (.ireturn, 1, .null)]]
abbrev mX5_added0 : Nat := 156
def rc_157 : ri_CD := [[some (.iload_n 0, 1, .null), some (.bipush 32, 2, .int (32)), none, some (.if_icmp .eq 9, 3, .retAddr 12), none, none, some (.iload_n 0, 1, .null), some (.bipush 10, 2, .int (10)), none, some (.if_icmp .ne 7, 3, .retAddr 16), none, none, some (.iconst 1, 1, .int (1)), some (.goto 4, 3, .retAddr 17), none, none],
  [some (.iconst 0, 1, .int (0)), some (.ireturn, 1, .null)]]
abbrev mX5_not0 : Nat := 157
def rc_158 : ri_CD := [[some (.iload_n 0, 1, .null), some (.bipush 32, 2, .int (32)), none, some (.if_icmp .eq 9, 3, .retAddr 12), none, none, some (.iload_n 0, 1, .null), some (.bipush 10, 2, .int (10)), none, some (.if_icmp .ne 7, 3, .retAddr 16), none, none, some (.iconst 1, 1, .int (1)), some (.goto 4, 3, .retAddr 17), none, none],
  [some (.iconst 0, 1, .int (0)), some (.ireturn, 1, .null)]]
abbrev mX5_both0 : Nat := 158
def rc_159 : ri_CD := [[some (.iload_n 0, 1, .null), some (.bipush 32, 2, .int (32)), none, some (.if_icmp .eq 9, 3, .retAddr 12), none, none, some (.iload_n 0, 1, .null), some (.bipush 10, 2, .int (10)), none, some (.if_icmp .ne 7, 3, .retAddr 16), none, none, some (.iconst 1, 1, .int (1)), some (.goto 4, 3, .retAddr 17), none, none],
  [some (.iconst 0, 1, .int (0)), some (.ireturn, 1, .null)]]
abbrev mX5_either0 : Nat := 159
def rc_160 : ri_CD := [[some (.iload_n 0, 1, .null), some (.bipush 32, 2, .int (32)), none, some (.if_icmp .eq 9, 3, .retAddr 12), none, none, some (.iload_n 0, 1, .null), some (.bipush 10, 2, .int (10)), none, some (.if_icmp .ne 7, 3, .retAddr 16), none, none, some (.iconst 1, 1, .int (1)), some (.goto 4, 3, .retAddr 17), none, none],
  [some (.iconst 0, 1, .int (0)), some (.ireturn, 1, .null)]]
abbrev mX5_part : Nat := 160
def rc_161 : ri_CD := [[some (.iload_n 0, 1, .null), some (.bipush 32, 2, .int (32)), none, some (.if_icmp .eq 9, 3, .retAddr 12), none, none, some (.iload_n 0, 1, .null), some (.bipush 10, 2, .int (10)), none, some (.if_icmp .ne 7, 3, .retAddr 16), none, none, some (.iconst 1, 1, .int (1)), some (.goto 4, 3, .retAddr 17), none, none],
  [some (.iconst 0, 1, .int (0)), some (.ireturn, 1, .null)]]
abbrev mX5_read : Nat := 161
def rc_162 : ri_CD := [[some (.iload_n 0, 1, .null), some (.bipush 32, 2, .int (32)), none, some (.if_icmp .eq 9, 3, .retAddr 12), none, none, some (.iload_n 0, 1, .null), some (.bipush 10, 2, .int (10)), none, some (.if_icmp .ne 7, 3, .retAddr 16), none, none, some (.iconst 1, 1, .int (1)), some (.goto 4, 3, .retAddr 17), none, none],
  [some (.iconst 0, 1, .int (0)), some (.ireturn, 1, .null)]]
abbrev mX5_text : Nat := 162
def rc_163 : ri_CD := [[some (.iload_n 0, 1, .null), some (.bipush 32, 2, .int (32)), none, some (.if_icmp .eq 9, 3, .retAddr 12), none, none, some (.iload_n 0, 1, .null), some (.bipush 10, 2, .int (10)), none, some (.if_icmp .ne 7, 3, .retAddr 16), none, none, some (.iconst 1, 1, .int (1)), some (.goto 4, 3, .retAddr 17), none, none],
  [some (.iconst 0, 1, .int (0)), some (.ireturn, 1, .null)]]
abbrev mX5_force : Nat := 163
def rc_164 : ri_CD := [[some (.iload_n 0, 1, .null), some (.bipush 32, 2, .int (32)), none, some (.if_icmp .eq 9, 3, .retAddr 12), none, none, some (.iload_n 0, 1, .null), some (.bipush 10, 2, .int (10)), none, some (.if_icmp .ne 7, 3, .retAddr 16), none, none, some (.iconst 1, 1, .int (1)), some (.goto 4, 3, .retAddr 17), none, none],
  [some (.iconst 0, 1, .int (0)), some (.ireturn, 1, .null)]]
abbrev mX5_says : Nat := 164
def rc_165 : ri_CD := [[some (.iload_n 0, 1, .null), some (.bipush 32, 2, .int (32)), none, some (.if_icmp .eq 9, 3, .retAddr 12), none, none, some (.iload_n 0, 1, .null), some (.bipush 10, 2, .int (10)), none, some (.if_icmp .ne 7, 3, .retAddr 16), none, none, some (.iconst 1, 1, .int (1)), some (.goto 4, 3, .retAddr 17), none, none],
  [some (.iconst 0, 1, .int (0)), some (.ireturn, 1, .null)]]
abbrev mX5_takesOf : Nat := 165
def rc_166 : ri_CD := [[some (.iload_n 0, 1, .null), some (.bipush 32, 2, .int (32)), none, some (.if_icmp .eq 9, 3, .retAddr 12), none, none, some (.iload_n 0, 1, .null), some (.bipush 10, 2, .int (10)), none, some (.if_icmp .ne 7, 3, .retAddr 16), none, none, some (.iconst 1, 1, .int (1)), some (.goto 4, 3, .retAddr 17), none, none],
  [some (.iconst 0, 1, .int (0)), some (.ireturn, 1, .null)]]
abbrev mX5_putsOf : Nat := 166
def rc_167 : ri_CD := [[some (.iload_n 0, 1, .null), some (.bipush 32, 2, .int (32)), none, some (.if_icmp .eq 9, 3, .retAddr 12), none, none, some (.iload_n 0, 1, .null), some (.bipush 10, 2, .int (10)), none, some (.if_icmp .ne 7, 3, .retAddr 16), none, none, some (.iconst 1, 1, .int (1)), some (.goto 4, 3, .retAddr 17), none, none],
  [some (.iconst 0, 1, .int (0)), some (.ireturn, 1, .null)]]
abbrev mX5_feelsOf : Nat := 167
def rc_168 : ri_CD := [[some (.iload_n 0, 1, .null), some (.bipush 32, 2, .int (32)), none, some (.if_icmp .eq 9, 3, .retAddr 12), none, none, some (.iload_n 0, 1, .null), some (.bipush 10, 2, .int (10)), none, some (.if_icmp .ne 7, 3, .retAddr 16), none, none, some (.iconst 1, 1, .int (1)), some (.goto 4, 3, .retAddr 17), none, none],
  [some (.iconst 0, 1, .int (0)), some (.ireturn, 1, .null)]]
abbrev mX5_tastes : Nat := 168
def rc_169 : ri_CD := [[some (.iload_n 0, 1, .null), some (.bipush 32, 2, .int (32)), none, some (.if_icmp .eq 9, 3, .retAddr 12), none, none, some (.iload_n 0, 1, .null), some (.bipush 10, 2, .int (10)), none, some (.if_icmp .ne 7, 3, .retAddr 16), none, none, some (.iconst 1, 1, .int (1)), some (.goto 4, 3, .retAddr 17), none, none],
  [some (.iconst 0, 1, .int (0)), some (.ireturn, 1, .null)]]
abbrev mX5_jarsAll : Nat := 169
def rc_170 : ri_CD := [[some (.iload_n 0, 1, .null), some (.bipush 32, 2, .int (32)), none, some (.if_icmp .eq 9, 3, .retAddr 12), none, none, some (.iload_n 0, 1, .null), some (.bipush 10, 2, .int (10)), none, some (.if_icmp .ne 7, 3, .retAddr 16), none, none, some (.iconst 1, 1, .int (1)), some (.goto 4, 3, .retAddr 17), none, none],
  [some (.iconst 0, 1, .int (0)), some (.ireturn, 1, .null)]]
abbrev mX5_goes : Nat := 170
def rc_171 : ri_CD := [[some (.iload_n 0, 1, .null), some (.bipush 32, 2, .int (32)), none, some (.if_icmp .eq 9, 3, .retAddr 12), none, none, some (.iload_n 0, 1, .null), some (.bipush 10, 2, .int (10)), none, some (.if_icmp .ne 7, 3, .retAddr 16), none, none, some (.iconst 1, 1, .int (1)), some (.goto 4, 3, .retAddr 17), none, none],
  [some (.iconst 0, 1, .int (0)), some (.ireturn, 1, .null)]]
abbrev mX5_passes : Nat := 171
def rc_172 : ri_CD := [[some (.iload_n 0, 1, .null), some (.bipush 32, 2, .int (32)), none, some (.if_icmp .eq 9, 3, .retAddr 12), none, none, some (.iload_n 0, 1, .null), some (.bipush 10, 2, .int (10)), none, some (.if_icmp .ne 7, 3, .retAddr 16), none, none, some (.iconst 1, 1, .int (1)), some (.goto 4, 3, .retAddr 17), none, none],
  [some (.iconst 0, 1, .int (0)), some (.ireturn, 1, .null)]]
abbrev mX5_year : Nat := 172
def rc_173 : ri_CD := [[some (.iload_n 0, 1, .null), some (.bipush 32, 2, .int (32)), none, some (.if_icmp .eq 9, 3, .retAddr 12), none, none, some (.iload_n 0, 1, .null), some (.bipush 10, 2, .int (10)), none, some (.if_icmp .ne 7, 3, .retAddr 16), none, none, some (.iconst 1, 1, .int (1)), some (.goto 4, 3, .retAddr 17), none, none],
  [some (.iconst 0, 1, .int (0)), some (.ireturn, 1, .null)]]
abbrev mX5_spoon : Nat := 173
def rc_174 : ri_CD := [[some (.iload_n 0, 1, .null), some (.bipush 32, 2, .int (32)), none, some (.if_icmp .eq 9, 3, .retAddr 12), none, none, some (.iload_n 0, 1, .null), some (.bipush 10, 2, .int (10)), none, some (.if_icmp .ne 7, 3, .retAddr 16), none, none, some (.iconst 1, 1, .int (1)), some (.goto 4, 3, .retAddr 17), none, none],
  [some (.iconst 0, 1, .int (0)), some (.ireturn, 1, .null)]]
abbrev mX5_laysAside : Nat := 174
def rc_175 : ri_CD := [[some (.iload_n 0, 1, .null), some (.bipush 32, 2, .int (32)), none, some (.if_icmp .eq 9, 3, .retAddr 12), none, none, some (.iload_n 0, 1, .null), some (.bipush 10, 2, .int (10)), none, some (.if_icmp .ne 7, 3, .retAddr 16), none, none, some (.iconst 1, 1, .int (1)), some (.goto 4, 3, .retAddr 17), none, none],
  [some (.iconst 0, 1, .int (0)), some (.ireturn, 1, .null)]]
abbrev mX5_laysBack : Nat := 175
def rc_176 : ri_CD := [[some (.iload_n 0, 1, .null), some (.bipush 32, 2, .int (32)), none, some (.if_icmp .eq 9, 3, .retAddr 12), none, none, some (.iload_n 0, 1, .null), some (.bipush 10, 2, .int (10)), none, some (.if_icmp .ne 7, 3, .retAddr 16), none, none, some (.iconst 1, 1, .int (1)), some (.goto 4, 3, .retAddr 17), none, none],
  [some (.iconst 0, 1, .int (0)), some (.ireturn, 1, .null)]]
abbrev mX5_run : Nat := 176
def rc_177 : ri_CD := [[some (.iload_n 0, 1, .null), some (.bipush 32, 2, .int (32)), none, some (.if_icmp .eq 9, 3, .retAddr 12), none, none, some (.iload_n 0, 1, .null), some (.bipush 10, 2, .int (10)), none, some (.if_icmp .ne 7, 3, .retAddr 16), none, none, some (.iconst 1, 1, .int (1)), some (.goto 4, 3, .retAddr 17), none, none],
  [some (.iconst 0, 1, .int (0)), some (.ireturn, 1, .null)]]
abbrev mX5_otherwise : Nat := 177
def rc_178 : ri_CD := [[some (.iload_n 0, 1, .null), some (.bipush 32, 2, .int (32)), none, some (.if_icmp .eq 9, 3, .retAddr 12), none, none, some (.iload_n 0, 1, .null), some (.bipush 10, 2, .int (10)), none, some (.if_icmp .ne 7, 3, .retAddr 16), none, none, some (.iconst 1, 1, .int (1)), some (.goto 4, 3, .retAddr 17), none, none],
  [some (.iconst 0, 1, .int (0)), some (.ireturn, 1, .null)]]
abbrev mX5_waysTo : Nat := 178
def rc_179 : ri_CD := [[some (.iload_n 0, 1, .null), some (.bipush 32, 2, .int (32)), none, some (.if_icmp .eq 9, 3, .retAddr 12), none, none, some (.iload_n 0, 1, .null), some (.bipush 10, 2, .int (10)), none, some (.if_icmp .ne 7, 3, .retAddr 16), none, none, some (.iconst 1, 1, .int (1)), some (.goto 4, 3, .retAddr 17), none, none],
  [some (.iconst 0, 1, .int (0)), some (.ireturn, 1, .null)]]
abbrev mX5_turns : Nat := 179
def rc_180 : ri_CD := [[some (.iload_n 0, 1, .null), some (.bipush 32, 2, .int (32)), none, some (.if_icmp .eq 9, 3, .retAddr 12), none, none, some (.iload_n 0, 1, .null), some (.bipush 10, 2, .int (10)), none, some (.if_icmp .ne 7, 3, .retAddr 16), none, none, some (.iconst 1, 1, .int (1)), some (.goto 4, 3, .retAddr 17), none, none],
  [some (.iconst 0, 1, .int (0)), some (.ireturn, 1, .null)]]
abbrev mX5_lowest : Nat := 180
def rc_181 : ri_CD := [[some (.iload_n 0, 1, .null), some (.bipush 32, 2, .int (32)), none, some (.if_icmp .eq 9, 3, .retAddr 12), none, none, some (.iload_n 0, 1, .null), some (.bipush 10, 2, .int (10)), none, some (.if_icmp .ne 7, 3, .retAddr 16), none, none, some (.iconst 1, 1, .int (1)), some (.goto 4, 3, .retAddr 17), none, none],
  [some (.iconst 0, 1, .int (0)), some (.ireturn, 1, .null)]]
abbrev mX5_likely : Nat := 181
def rc_182 : ri_CD := [[some (.iload_n 0, 1, .null), some (.bipush 32, 2, .int (32)), none, some (.if_icmp .eq 9, 3, .retAddr 12), none, none, some (.iload_n 0, 1, .null), some (.bipush 10, 2, .int (10)), none, some (.if_icmp .ne 7, 3, .retAddr 16), none, none, some (.iconst 1, 1, .int (1)), some (.goto 4, 3, .retAddr 17), none, none],
  [some (.iconst 0, 1, .int (0)), some (.ireturn, 1, .null)]]
abbrev mX5_fewest : Nat := 182
def rc_183 : ri_CD := [[some (.iload_n 0, 1, .null), some (.bipush 32, 2, .int (32)), none, some (.if_icmp .eq 9, 3, .retAddr 12), none, none, some (.iload_n 0, 1, .null), some (.bipush 10, 2, .int (10)), none, some (.if_icmp .ne 7, 3, .retAddr 16), none, none, some (.iconst 1, 1, .int (1)), some (.goto 4, 3, .retAddr 17), none, none],
  [some (.iconst 0, 1, .int (0)), some (.ireturn, 1, .null)]]
abbrev mX5_meet : Nat := 183
def rc_184 : ri_CD := [[some (.iload_n 0, 1, .null), some (.bipush 32, 2, .int (32)), none, some (.if_icmp .eq 9, 3, .retAddr 12), none, none, some (.iload_n 0, 1, .null), some (.bipush 10, 2, .int (10)), none, some (.if_icmp .ne 7, 3, .retAddr 16), none, none, some (.iconst 1, 1, .int (1)), some (.goto 4, 3, .retAddr 17), none, none],
  [some (.iconst 0, 1, .int (0)), some (.ireturn, 1, .null)]]
abbrev mX5_jarsBehind : Nat := 184
def rc_185 : ri_CD := [[some (.iload_n 0, 1, .null), some (.bipush 32, 2, .int (32)), none, some (.if_icmp .eq 9, 3, .retAddr 12), none, none, some (.iload_n 0, 1, .null), some (.bipush 10, 2, .int (10)), none, some (.if_icmp .ne 7, 3, .retAddr 16), none, none, some (.iconst 1, 1, .int (1)), some (.goto 4, 3, .retAddr 17), none, none],
  [some (.iconst 0, 1, .int (0)), some (.ireturn, 1, .null)]]
abbrev mX5_shut : Nat := 185
def rc_186 : ri_CD := [[some (.iload_n 0, 1, .null), some (.bipush 32, 2, .int (32)), none, some (.if_icmp .eq 9, 3, .retAddr 12), none, none, some (.iload_n 0, 1, .null), some (.bipush 10, 2, .int (10)), none, some (.if_icmp .ne 7, 3, .retAddr 16), none, none, some (.iconst 1, 1, .int (1)), some (.goto 4, 3, .retAddr 17), none, none],
  [some (.iconst 0, 1, .int (0)), some (.ireturn, 1, .null)]]
abbrev mX5_spoonFor : Nat := 186
def rc_187 : ri_CD := [[some (.iload_n 0, 1, .null), some (.bipush 32, 2, .int (32)), none, some (.if_icmp .eq 9, 3, .retAddr 12), none, none, some (.iload_n 0, 1, .null), some (.bipush 10, 2, .int (10)), none, some (.if_icmp .ne 7, 3, .retAddr 16), none, none, some (.iconst 1, 1, .int (1)), some (.goto 4, 3, .retAddr 17), none, none],
  [some (.iconst 0, 1, .int (0)), some (.ireturn, 1, .null)]]
abbrev mX5_shelf : Nat := 187
def rc_188 : ri_CD := [[some (.iload_n 0, 1, .null), some (.bipush 32, 2, .int (32)), none, some (.if_icmp .eq 9, 3, .retAddr 12), none, none, some (.iload_n 0, 1, .null), some (.bipush 10, 2, .int (10)), none, some (.if_icmp .ne 7, 3, .retAddr 16), none, none, some (.iconst 1, 1, .int (1)), some (.goto 4, 3, .retAddr 17), none, none],
  [some (.iconst 0, 1, .int (0)), some (.ireturn, 1, .null)]]
abbrev mX5_best : Nat := 188
def rc_189 : ri_CD := [[some (.iload_n 0, 1, .null), some (.bipush 32, 2, .int (32)), none, some (.if_icmp .eq 9, 3, .retAddr 12), none, none, some (.iload_n 0, 1, .null), some (.bipush 10, 2, .int (10)), none, some (.if_icmp .ne 7, 3, .retAddr 16), none, none, some (.iconst 1, 1, .int (1)), some (.goto 4, 3, .retAddr 17), none, none],
  [some (.iconst 0, 1, .int (0)), some (.ireturn, 1, .null)]]
abbrev mX5_firstOther : Nat := 189
def rc_190 : ri_CD := [[some (.iload_n 0, 1, .null), some (.bipush 32, 2, .int (32)), none, some (.if_icmp .eq 9, 3, .retAddr 12), none, none, some (.iload_n 0, 1, .null), some (.bipush 10, 2, .int (10)), none, some (.if_icmp .ne 7, 3, .retAddr 16), none, none, some (.iconst 1, 1, .int (1)), some (.goto 4, 3, .retAddr 17), none, none],
  [some (.iconst 0, 1, .int (0)), some (.ireturn, 1, .null)]]
abbrev mX5_likeSet : Nat := 190
def rc_191 : ri_CD := [[some (.iload_n 0, 1, .null), some (.bipush 32, 2, .int (32)), none, some (.if_icmp .eq 9, 3, .retAddr 12), none, none, some (.iload_n 0, 1, .null), some (.bipush 10, 2, .int (10)), none, some (.if_icmp .ne 7, 3, .retAddr 16), none, none, some (.iconst 1, 1, .int (1)), some (.goto 4, 3, .retAddr 17), none, none],
  [some (.iconst 0, 1, .int (0)), some (.ireturn, 1, .null)]]
abbrev mX5_tells : Nat := 191
def rc_192 : ri_CD := [[some (.iload_n 0, 1, .null), some (.bipush 32, 2, .int (32)), none, some (.if_icmp .eq 9, 3, .retAddr 12), none, none, some (.iload_n 0, 1, .null), some (.bipush 10, 2, .int (10)), none, some (.if_icmp .ne 7, 3, .retAddr 16), none, none, some (.iconst 1, 1, .int (1)), some (.goto 4, 3, .retAddr 17), none, none],
  [some (.iconst 0, 1, .int (0)), some (.ireturn, 1, .null)]]
abbrev mX5_film : Nat := 192
def rc_193 : ri_CD := [[some (.iload_n 0, 1, .null), some (.bipush 32, 2, .int (32)), none, some (.if_icmp .eq 9, 3, .retAddr 12), none, none, some (.iload_n 0, 1, .null), some (.bipush 10, 2, .int (10)), none, some (.if_icmp .ne 7, 3, .retAddr 16), none, none, some (.iconst 1, 1, .int (1)), some (.goto 4, 3, .retAddr 17), none, none],
  [some (.iconst 0, 1, .int (0)), some (.ireturn, 1, .null)]]
abbrev mX5_atDrawn : Nat := 193
def rc_194 : ri_CD := [[some (.iload_n 0, 1, .null), some (.bipush 32, 2, .int (32)), none, some (.if_icmp .eq 9, 3, .retAddr 12), none, none, some (.iload_n 0, 1, .null), some (.bipush 10, 2, .int (10)), none, some (.if_icmp .ne 7, 3, .retAddr 16), none, none, some (.iconst 1, 1, .int (1)), some (.goto 4, 3, .retAddr 17), none, none],
  [some (.iconst 0, 1, .int (0)), some (.ireturn, 1, .null)]]
abbrev mX5_drawn : Nat := 194
def rc_195 : ri_CD := [[some (.iload_n 0, 1, .null), some (.bipush 32, 2, .int (32)), none, some (.if_icmp .eq 9, 3, .retAddr 12), none, none, some (.iload_n 0, 1, .null), some (.bipush 10, 2, .int (10)), none, some (.if_icmp .ne 7, 3, .retAddr 16), none, none, some (.iconst 1, 1, .int (1)), some (.goto 4, 3, .retAddr 17), none, none],
  [some (.iconst 0, 1, .int (0)), some (.ireturn, 1, .null)]]
abbrev mX5_chance : Nat := 195
def rc_196 : ri_CD := [[some (.iload_n 0, 1, .null), some (.bipush 32, 2, .int (32)), none, some (.if_icmp .eq 9, 3, .retAddr 12), none, none, some (.iload_n 0, 1, .null), some (.bipush 10, 2, .int (10)), none, some (.if_icmp .ne 7, 3, .retAddr 16), none, none, some (.iconst 1, 1, .int (1)), some (.goto 4, 3, .retAddr 17), none, none],
  [some (.iconst 0, 1, .int (0)), some (.ireturn, 1, .null)]]
abbrev mX5_image : Nat := 196
def rc_197 : ri_CD := [[some (.iload_n 0, 1, .null), some (.bipush 32, 2, .int (32)), none, some (.if_icmp .eq 9, 3, .retAddr 12), none, none, some (.iload_n 0, 1, .null), some (.bipush 10, 2, .int (10)), none, some (.if_icmp .ne 7, 3, .retAddr 16), none, none, some (.iconst 1, 1, .int (1)), some (.goto 4, 3, .retAddr 17), none, none],
  [some (.iconst 0, 1, .int (0)), some (.ireturn, 1, .null)]]
abbrev mX5_back : Nat := 197
def rc_198 : ri_CD := [[some (.iload_n 0, 1, .null), some (.bipush 32, 2, .int (32)), none, some (.if_icmp .eq 9, 3, .retAddr 12), none, none, some (.iload_n 0, 1, .null), some (.bipush 10, 2, .int (10)), none, some (.if_icmp .ne 7, 3, .retAddr 16), none, none, some (.iconst 1, 1, .int (1)), some (.goto 4, 3, .retAddr 17), none, none],
  [some (.iconst 0, 1, .int (0)), some (.ireturn, 1, .null)]]
abbrev mX5_count : Nat := 198
def rc_199 : ri_CD := [[some (.iload_n 0, 1, .null), some (.bipush 32, 2, .int (32)), none, some (.if_icmp .eq 9, 3, .retAddr 12), none, none, some (.iload_n 0, 1, .null), some (.bipush 10, 2, .int (10)), none, some (.if_icmp .ne 7, 3, .retAddr 16), none, none, some (.iconst 1, 1, .int (1)), some (.goto 4, 3, .retAddr 17), none, none],
  [some (.iconst 0, 1, .int (0)), some (.ireturn, 1, .null)]]
abbrev mX5_isSheet : Nat := 199
def rc_200 : ri_CD := [[some (.iload_n 0, 1, .null), some (.bipush 32, 2, .int (32)), none, some (.if_icmp .eq 9, 3, .retAddr 12), none, none, some (.iload_n 0, 1, .null), some (.bipush 10, 2, .int (10)), none, some (.if_icmp .ne 7, 3, .retAddr 16), none, none, some (.iconst 1, 1, .int (1)), some (.goto 4, 3, .retAddr 17), none, none],
  [some (.iconst 0, 1, .int (0)), some (.ireturn, 1, .null)]]
abbrev mX5_sheet : Nat := 200
def rc_201 : ri_CD := [[some (.iload_n 0, 1, .null), some (.bipush 32, 2, .int (32)), none, some (.if_icmp .eq 9, 3, .retAddr 12), none, none, some (.iload_n 0, 1, .null), some (.bipush 10, 2, .int (10)), none, some (.if_icmp .ne 7, 3, .retAddr 16), none, none, some (.iconst 1, 1, .int (1)), some (.goto 4, 3, .retAddr 17), none, none],
  [some (.iconst 0, 1, .int (0)), some (.ireturn, 1, .null)]]
abbrev mX5_cell : Nat := 201
def rc_202 : ri_CD := [[some (.iload_n 0, 1, .null), some (.bipush 32, 2, .int (32)), none, some (.if_icmp .eq 9, 3, .retAddr 12), none, none, some (.iload_n 0, 1, .null), some (.bipush 10, 2, .int (10)), none, some (.if_icmp .ne 7, 3, .retAddr 16), none, none, some (.iconst 1, 1, .int (1)), some (.goto 4, 3, .retAddr 17), none, none],
  [some (.iconst 0, 1, .int (0)), some (.ireturn, 1, .null)]]
abbrev mX5_copy : Nat := 202
def rc_203 : ri_CD := [[some (.iload_n 0, 1, .null), some (.bipush 32, 2, .int (32)), none, some (.if_icmp .eq 9, 3, .retAddr 12), none, none, some (.iload_n 0, 1, .null), some (.bipush 10, 2, .int (10)), none, some (.if_icmp .ne 7, 3, .retAddr 16), none, none, some (.iconst 1, 1, .int (1)), some (.goto 4, 3, .retAddr 17), none, none],
  [some (.iconst 0, 1, .int (0)), some (.ireturn, 1, .null)]]
abbrev mX5_lives : Nat := 203
def rc_204 : ri_CD := [[some (.iload_n 0, 1, .null), some (.bipush 32, 2, .int (32)), none, some (.if_icmp .eq 9, 3, .retAddr 12), none, none, some (.iload_n 0, 1, .null), some (.bipush 10, 2, .int (10)), none, some (.if_icmp .ne 7, 3, .retAddr 16), none, none, some (.iconst 1, 1, .int (1)), some (.goto 4, 3, .retAddr 17), none, none],
  [some (.iconst 0, 1, .int (0)), some (.ireturn, 1, .null)]]
abbrev mX5_over : Nat := 204
def rc_205 : ri_CD := [[some (.iload_n 0, 1, .null), some (.bipush 32, 2, .int (32)), none, some (.if_icmp .eq 9, 3, .retAddr 12), none, none, some (.iload_n 0, 1, .null), some (.bipush 10, 2, .int (10)), none, some (.if_icmp .ne 7, 3, .retAddr 16), none, none, some (.iconst 1, 1, .int (1)), some (.goto 4, 3, .retAddr 17), none, none],
  [some (.iconst 0, 1, .int (0)), some (.ireturn, 1, .null)]]
abbrev mX5_taken : Nat := 205
def rc_206 : ri_CD := [[some (.aload_n 0, 1, .null), some (.getfield 9, 3, .null), none, none, some (.arraylength, 1, .null), some (.aload_n 0, 1, .null), some (.invokevirtual 335, 3, .null), none, none, some (.ishr, 1, .null), some (.ireturn, 1, .null)]]
abbrev mJ0_length : Nat := 206
def rc_207 : ri_CD := [[some (.aload_n 0, 1, .null), some (.invokevirtual 492, 3, .null), none, none, some (.ifCond .eq 12, 3, .retAddr 16), none, none, some (.aload_n 0, 1, .null), some (.getfield 9, 3, .null), none, none, some (.iload_n 1, 1, .null), some (.invokestatic 495, 3, .null), none, none, some (.ireturn, 1, .null)],
  [some (.aload_n 0, 1, .null), some (.getfield 9, 3, .null), none, none, some (.iload_n 1, 1, .null), some (.invokestatic 498, 3, .null), none, none, some (.ireturn, 1, .null)]]
abbrev mJ0_charAt : Nat := 207
def rc_208 : ri_CD := [[some (.getstatic 38, 3, .null), none, none, some (.ifCond .eq 10, 3, .retAddr 13), none, none, some (.aload_n 0, 1, .null), some (.getfield 15, 3, .null), none, none, some (.goto 4, 3, .retAddr 14), none, none, some (.iconst 1, 1, .int (1)), some (.ireturn, 1, .null)]]
abbrev mJ0_coder : Nat := 208
def rc_209 : ri_CD := [[some (.getstatic 38, 3, .null), none, none, some (.ifCond .eq 14, 3, .retAddr 17), none, none, some (.aload_n 0, 1, .null), some (.getfield 15, 3, .null), none, none, some (.ifCond .ne 7, 3, .retAddr 17), none, none, some (.iconst 1, 1, .int (1)), some (.goto 4, 3, .retAddr 18), none],
  [none, some (.iconst 0, 1, .int (0)), some (.ireturn, 1, .null)]]
abbrev mJ0_isLatin1 : Nat := 209
def rc_210 : ri_CD := [[some (.iload_n 0, 1, .null), some (.iload_n 1, 1, .null), some (.getstatic 1053, 3, .null), none, none, some (.invokestatic 1059, 3, .null), none, none, some (.pop, 1, .null), some (.return_, 1, .null)]]
abbrev mJ0_checkIndex : Nat := 210
def rc_211 : ri_CD := [[some (.iload_n 1, 1, .null), some (.aload_n 0, 1, .null), some (.arraylength, 1, .null), some (.invokestatic 9, 3, .null), none, none, some (.aload_n 0, 1, .null), some (.iload_n 1, 1, .null), some (.baload, 1, .null), some (.sipush 255, 3, .int (255)), none, none, some (.iand, 1, .null), some (.i2c, 1, .null), some (.ireturn, 1, .null)]]
abbrev mJ1_charAt : Nat := 211
def rc_212 : ri_CD := [[some (.iload_n 0, 1, .null), some (.ifCond .lt 8, 3, .retAddr 9), none, none, some (.iload_n 0, 1, .null), some (.iload_n 1, 1, .null), some (.if_icmp .lt 10, 3, .retAddr 16), none, none, some (.aload_n 2, 1, .null), some (.iload_n 0, 1, .null), some (.iload_n 1, 1, .null), some (.invokestatic 95, 3, .null), none, none, some (.athrow, 1, .null)],
  [some (.iload_n 0, 1, .null), some (.ireturn, 1, .null)]]
abbrev mJ3_checkIndex : Nat := 212
def rc_213 : ri_CD := [[some (.iconst 0, 1, .int (0)), some (.istore_n 1, 1, .null), some (.iload_n 1, 1, .null), some (.iconst 3, 1, .int (3)), some (.if_icmp .ge 890, 3, .retAddr 894), none, none, some (.new 13, 3, .null), none, none, some (.dup, 1, .null), some (.invokespecial 15, 3, .null), none, none, some (.astore_n 2, 1, .null), some (.iconst 1, 1, .int (1))],
  [some (.aload_n 0, 1, .null), some (.iload_n 1, 1, .null), some (.iconst 5, 1, .int (5)), some (.invokestatic 16, 3, .null), none, none, some (.iadd, 1, .null), some (.istore_n 3, 1, .null), some (.aload_n 0, 1, .null), some (.iconst 3, 1, .int (3)), some (.iload_n 1, 1, .null), some (.iadd, 1, .null), some (.bipush 12, 2, .int (12)), none, some (.invokestatic 16, 3, .null), none],
  [none, some (.istore 4, 2, .null), none, some (.aload_n 0, 1, .null), some (.bipush 6, 2, .int (6)), none, some (.iload_n 1, 1, .null), some (.iadd, 1, .null), some (.bipush 20, 2, .int (20)), none, some (.invokestatic 16, 3, .null), none, none, some (.istore 5, 2, .null), none, some (.aload_n 2, 1, .null)],
  [some (.iconst 2, 1, .int (2)), some (.iconst 0, 1, .int (0)), some (.iload 5, 2, .null), none, some (.invokevirtual 20, 3, .null), none, none, some (.pop, 1, .null), some (.iconst 0, 1, .int (0)), some (.istore 6, 2, .null), none, some (.iload 6, 2, .null), none, some (.iload_n 3, 1, .null), some (.if_icmp .ge 67, 3, .retAddr 129), none],
  [none, some (.aload_n 2, 1, .null), some (.iconst 0, 1, .int (0)), some (.aload_n 0, 1, .null), some (.bipush 9, 2, .int (9)), none, some (.iload 6, 2, .null), none, some (.iadd, 1, .null), some (.bipush 10, 2, .int (10)), none, some (.invokestatic 16, 3, .null), none, none, some (.iload 6, 2, .null), none],
  [some (.ifCond .ne 8, 3, .retAddr 88), none, none, some (.iload 4, 2, .null), none, some (.goto 16, 3, .retAddr 101), none, none, some (.aload_n 0, 1, .null), some (.bipush 16, 2, .int (16)), none, some (.iload 6, 2, .null), none, some (.iadd, 1, .null), some (.iload_n 1, 1, .null), some (.iadd, 1, .null)],
  [some (.bipush 12, 2, .int (12)), none, some (.invokestatic 16, 3, .null), none, none, some (.invokevirtual 24, 3, .null), none, none, some (.iload 6, 2, .null), none, some (.if_icmp .ne 15, 3, .retAddr 121), none, none, some (.aload_n 2, 1, .null), some (.iload 6, 2, .null), none],
  [some (.bipush 9, 2, .int (9)), none, some (.invokevirtual 27, 3, .null), none, none, some (.iconst 2, 1, .int (2)), some (.if_icmp .eq 5, 3, .retAddr 123), none, none, some (.iconst 0, 1, .int (0)), some (.ireturn, 1, .null), some (.iinc 6 1, 3, .int (1)), none, none, some (.goto (-67), 3, .retAddr 59), none],
  [none, some (.aload_n 0, 1, .null), some (.bipush 24, 2, .int (24)), none, some (.iload_n 1, 1, .null), some (.iadd, 1, .null), some (.bipush 31, 2, .int (31)), none, some (.invokestatic 16, 3, .null), none, none, some (.istore 6, 2, .null), none, some (.iload 4, 2, .null), none, some (.istore 7, 2, .null)],
  [none, some (.iconst 1, 1, .int (1)), some (.iload 7, 2, .null), none, some (.ishl, 1, .null), some (.istore 8, 2, .null), none, some (.iconst 0, 1, .int (0)), some (.istore 9, 2, .null), none, some (.iload 9, 2, .null), none, some (.iload 6, 2, .null), none, some (.if_icmp .ge 42, 3, .retAddr 200), none],
  [none, some (.iload 7, 2, .null), none, some (.iload 5, 2, .null), none, some (.iadd, 1, .null), some (.iload 9, 2, .null), none, some (.iadd, 1, .null), some (.iconst 2, 1, .int (2)), some (.irem, 1, .null), some (.istore 10, 2, .null), none, some (.iload 7, 2, .null), none, some (.iconst 1, 1, .int (1))],
  [some (.iadd, 1, .null), some (.iload 10, 2, .null), none, some (.iadd, 1, .null), some (.bipush 12, 2, .int (12)), none, some (.irem, 1, .null), some (.istore 7, 2, .null), none, some (.iload 8, 2, .null), none, some (.iconst 1, 1, .int (1)), some (.iload 7, 2, .null), none, some (.ishl, 1, .null), some (.ior, 1, .null)],
  [some (.istore 8, 2, .null), none, some (.iinc 9 1, 3, .int (1)), none, none, some (.goto (-43), 3, .retAddr 154), none, none, some (.aload_n 2, 1, .null), some (.iconst 0, 1, .int (0)), some (.iload 6, 2, .null), none, some (.iconst 0, 1, .int (0)), some (.invokevirtual 31, 3, .null), none, none],
  [some (.iload 7, 2, .null), none, some (.if_icmp .ne 33, 3, .retAddr 243), none, none, some (.aload_n 2, 1, .null), some (.iconst 0, 1, .int (0)), some (.iload 6, 2, .null), none, some (.iconst 1, 1, .int (1)), some (.invokevirtual 31, 3, .null), none, none, some (.iload 8, 2, .null), none, some (.if_icmp .ne 20, 3, .retAddr 243)],
  [none, none, some (.aload_n 2, 1, .null), some (.iconst 0, 1, .int (0)), some (.iload 6, 2, .null), none, some (.iconst 2, 1, .int (2)), some (.invokevirtual 31, 3, .null), none, none, some (.iconst 2, 1, .int (2)), some (.iload_n 3, 1, .null), some (.imul, 1, .null), some (.iload 6, 2, .null), none, some (.imul, 1, .null)],
  [some (.if_icmp .eq 5, 3, .retAddr 245), none, none, some (.iconst 0, 1, .int (0)), some (.ireturn, 1, .null), some (.aload_n 0, 1, .null), some (.bipush 27, 2, .int (27)), none, some (.iload_n 1, 1, .null), some (.iadd, 1, .null), some (.bipush 31, 2, .int (31)), none, some (.invokestatic 16, 3, .null), none, none, some (.istore 9, 2, .null)],
  [none, some (.aload_n 0, 1, .null), some (.bipush 30, 2, .int (30)), none, some (.iload_n 1, 1, .null), some (.iadd, 1, .null), some (.bipush 12, 2, .int (12)), none, some (.invokestatic 16, 3, .null), none, none, some (.istore 10, 2, .null), none, some (.lconst 0, 1, .null), some (.lstore 11, 2, .null), none],
  [some (.lconst 1, 1, .null), some (.lstore 13, 2, .null), none, some (.iconst 0, 1, .int (0)), some (.istore 15, 2, .null), none, some (.iload 15, 2, .null), none, some (.iload 9, 2, .null), none, some (.if_icmp .gt 49, 3, .retAddr 331), none, none, some (.iload 4, 2, .null), none, some (.iload 9, 2, .null)],
  [none, some (.iadd, 1, .null), some (.iload 15, 2, .null), none, some (.iadd, 1, .null), some (.bipush 12, 2, .int (12)), none, some (.irem, 1, .null), some (.iload 10, 2, .null), none, some (.if_icmp .ne 10, 3, .retAddr 308), none, none, some (.lload 11, 2, .null), none, some (.lload 13, 2, .null)],
  [none, some (.ladd, 1, .null), some (.lstore 11, 2, .null), none, some (.lload 13, 2, .null), none, some (.iload 9, 2, .null), none, some (.iload 15, 2, .null), none, some (.isub, 1, .null), some (.i2l, 1, .null), some (.lmul, 1, .null), some (.iload 15, 2, .null), none, some (.iconst 1, 1, .int (1))],
  [some (.iadd, 1, .null), some (.i2l, 1, .null), some (.ldiv, 1, .null), some (.lstore 13, 2, .null), none, some (.iinc 15 1, 3, .int (1)), none, none, some (.goto (-50), 3, .retAddr 278), none, none, some (.aload_n 2, 1, .null), some (.iload 4, 2, .null), none, some (.iload 10, 2, .null), none],
  [some (.iload 9, 2, .null), none, some (.invokevirtual 34, 3, .null), none, none, some (.lload 11, 2, .null), none, some (.lcmp, 1, .null), some (.ifCond .eq 5, 3, .retAddr 349), none, none, some (.iconst 0, 1, .int (0)), some (.ireturn, 1, .null), some (.aload_n 2, 1, .null), some (.iload 4, 2, .null), none],
  [some (.iload 10, 2, .null), none, some (.iload 9, 2, .null), none, some (.iconst 1, 1, .int (1)), some (.invokevirtual 38, 3, .null), none, none, some (.lstore 15, 2, .null), none, some (.aload_n 2, 1, .null), some (.iload 4, 2, .null), none, some (.iload 10, 2, .null), none, some (.iload 9, 2, .null)],
  [none, some (.iconst 0, 1, .int (0)), some (.invokevirtual 38, 3, .null), none, none, some (.lconst 1, 1, .null), some (.iload 9, 2, .null), none, some (.lshl, 1, .null), some (.lload 15, 2, .null), none, some (.ldiv, 1, .null), some (.lmul, 1, .null), some (.lload 11, 2, .null), none, some (.lcmp, 1, .null)],
  [some (.ifCond .ne 15, 3, .retAddr 399), none, none, some (.lconst 1, 1, .null), some (.iload 9, 2, .null), none, some (.lshl, 1, .null), some (.lload 15, 2, .null), none, some (.lrem, 1, .null), some (.lconst 0, 1, .null), some (.lcmp, 1, .null), some (.ifCond .eq 5, 3, .retAddr 401), none, none, some (.iconst 0, 1, .int (0))],
  [some (.ireturn, 1, .null), some (.aload_n 0, 1, .null), some (.bipush 33, 2, .int (33)), none, some (.iload_n 1, 1, .null), some (.iadd, 1, .null), some (.bipush 11, 2, .int (11)), none, some (.invokestatic 16, 3, .null), none, none, some (.istore 17, 2, .null), none, some (.iconst 2, 1, .int (2)), some (.newarray .int, 2, .null), none],
  [some (.astore 18, 2, .null), none, some (.iconst 0, 1, .int (0)), some (.istore 19, 2, .null), none, some (.iload 19, 2, .null), none, some (.iconst 2, 1, .int (2)), some (.if_icmp .ge 84, 3, .retAddr 508), none, none, some (.iload 4, 2, .null), none, some (.istore 20, 2, .null), none, some (.iconst 0, 1, .int (0))],
  [some (.istore 21, 2, .null), none, some (.iload 21, 2, .null), none, some (.iload 17, 2, .null), none, some (.if_icmp .ge 45, 3, .retAddr 483), none, none, some (.iload 20, 2, .null), none, some (.iload 5, 2, .null), none, some (.iadd, 1, .null), some (.iload 21, 2, .null), none],
  [some (.iadd, 1, .null), some (.iconst 2, 1, .int (2)), some (.irem, 1, .null), some (.iload 19, 2, .null), none, some (.if_icmp .eq 12, 3, .retAddr 465), none, none, some (.aload 18, 2, .null), none, some (.iload 19, 2, .null), none, some (.dup2, 1, .null), some (.iaload, 1, .null), some (.iconst 1, 1, .int (1)), some (.iadd, 1, .null)],
  [some (.iastore, 1, .null), some (.iload 20, 2, .null), none, some (.iconst 1, 1, .int (1)), some (.iadd, 1, .null), some (.iload 19, 2, .null), none, some (.iadd, 1, .null), some (.bipush 12, 2, .int (12)), none, some (.irem, 1, .null), some (.istore 20, 2, .null), none, some (.iinc 21 1, 3, .int (1)), none, none],
  [some (.goto (-46), 3, .retAddr 434), none, none, some (.aload_n 2, 1, .null), some (.iconst 0, 1, .int (0)), some (.iload 20, 2, .null), none, some (.iload 17, 2, .null), none, some (.invokevirtual 42, 3, .null), none, none, some (.aload 18, 2, .null), none, some (.iload 19, 2, .null), none],
  [some (.iaload, 1, .null), some (.if_icmp .eq 5, 3, .retAddr 502), none, none, some (.iconst 0, 1, .int (0)), some (.ireturn, 1, .null), some (.iinc 19 1, 3, .int (1)), none, none, some (.goto (-84), 3, .retAddr 421), none, none, some (.iload 6, 2, .null), none, some (.ifCond .le 89, 3, .retAddr 599), none],
  [none, some (.aload_n 0, 1, .null), some (.bipush 36, 2, .int (36)), none, some (.iload_n 1, 1, .null), some (.iadd, 1, .null), some (.iload 6, 2, .null), none, some (.invokestatic 16, 3, .null), none, none, some (.istore 19, 2, .null), none, some (.iload 4, 2, .null), none, some (.istore 20, 2, .null)],
  [none, some (.iconst 0, 1, .int (0)), some (.istore 21, 2, .null), none, some (.iload 21, 2, .null), none, some (.iload 6, 2, .null), none, some (.if_icmp .ge 47, 3, .retAddr 583), none, none, some (.iload 20, 2, .null), none, some (.iload 5, 2, .null), none, some (.iadd, 1, .null)],
  [some (.iload 21, 2, .null), none, some (.iadd, 1, .null), some (.iconst 2, 1, .int (2)), some (.irem, 1, .null), some (.istore 22, 2, .null), none, some (.iload 20, 2, .null), none, some (.iconst 1, 1, .int (1)), some (.iadd, 1, .null), some (.iload 21, 2, .null), none, some (.iload 19, 2, .null), none, some (.if_icmp .ne 10, 3, .retAddr 569)],
  [none, none, some (.iconst 1, 1, .int (1)), some (.iload 22, 2, .null), none, some (.isub, 1, .null), some (.goto 5, 3, .retAddr 571), none, none, some (.iload 22, 2, .null), none, some (.iadd, 1, .null), some (.bipush 12, 2, .int (12)), none, some (.irem, 1, .null), some (.istore 20, 2, .null)],
  [none, some (.iinc 21 1, 3, .int (1)), none, none, some (.goto (-48), 3, .retAddr 532), none, none, some (.aload_n 2, 1, .null), some (.iconst 0, 1, .int (0)), some (.iload 6, 2, .null), none, some (.iload 19, 2, .null), none, some (.invokevirtual 45, 3, .null), none, none],
  [some (.iload 20, 2, .null), none, some (.if_icmp .eq 5, 3, .retAddr 599), none, none, some (.iconst 0, 1, .int (0)), some (.ireturn, 1, .null), some (.iload 4, 2, .null), none, some (.iload 5, 2, .null), none, some (.iadd, 1, .null), some (.iconst 2, 1, .int (2)), some (.irem, 1, .null), some (.istore 19, 2, .null), none],
  [some (.iconst 2, 1, .int (2)), some (.iload 4, 2, .null), none, some (.imul, 1, .null), some (.iconst 1, 1, .int (1)), some (.iadd, 1, .null), some (.iload 19, 2, .null), none, some (.isub, 1, .null), some (.istore 20, 2, .null), none, some (.aload_n 2, 1, .null), some (.invokevirtual 48, 3, .null), none, none, some (.pop, 1, .null)],
  [some (.aload_n 2, 1, .null), some (.invokevirtual 52, 3, .null), none, none, some (.iconst 2, 1, .int (2)), some (.iload_n 3, 1, .null), some (.imul, 1, .null), some (.if_icmp .ne 33, 3, .retAddr 664), none, none, some (.aload_n 2, 1, .null), some (.iconst 0, 1, .int (0)), some (.iconst 4, 1, .int (4)), some (.invokevirtual 27, 3, .null), none, none],
  [some (.iload 4, 2, .null), none, some (.iconst 1, 1, .int (1)), some (.iadd, 1, .null), some (.iload 19, 2, .null), none, some (.iadd, 1, .null), some (.bipush 12, 2, .int (12)), none, some (.irem, 1, .null), some (.if_icmp .ne 14, 3, .retAddr 664), none, none, some (.aload_n 2, 1, .null), some (.iload 20, 2, .null), none],
  [some (.iconst 1, 1, .int (1)), some (.invokevirtual 27, 3, .null), none, none, some (.iconst 2, 1, .int (2)), some (.if_icmp .ge 5, 3, .retAddr 666), none, none, some (.iconst 0, 1, .int (0)), some (.ireturn, 1, .null), some (.aload_n 2, 1, .null), some (.iload 20, 2, .null), none, some (.iconst 1, 1, .int (1)), some (.invokevirtual 27, 3, .null), none],
  [none, some (.istore 21, 2, .null), none, some (.iconst 1, 1, .int (1)), some (.istore 22, 2, .null), none, some (.iload 22, 2, .null), none, some (.iload 21, 2, .null), none, some (.if_icmp .gt 67, 3, .retAddr 749), none, none, some (.aload_n 2, 1, .null), some (.iconst 0, 1, .int (0)), some (.iconst 1, 1, .int (1))],
  [some (.invokevirtual 55, 3, .null), none, none, some (.iconst 5, 1, .int (5)), some (.if_icmp .ne 49, 3, .retAddr 741), none, none, some (.aload_n 2, 1, .null), some (.iconst 0, 1, .int (0)), some (.iload 20, 2, .null), none, some (.invokevirtual 58, 3, .null), none, none, some (.bipush 99, 2, .int (99)), none],
  [some (.iconst 5, 1, .int (5)), some (.iload 22, 2, .null), none, some (.imul, 1, .null), some (.invokestatic 61, 3, .null), none, none, some (.if_icmp .ne 30, 3, .retAddr 741), none, none, some (.aload_n 2, 1, .null), some (.iconst 0, 1, .int (0)), some (.bipush 6, 2, .int (6)), none, some (.invokevirtual 27, 3, .null), none],
  [none, some (.iload 22, 2, .null), none, some (.if_icmp .ne 18, 3, .retAddr 741), none, none, some (.aload_n 2, 1, .null), some (.iload 20, 2, .null), none, some (.iconst 1, 1, .int (1)), some (.invokevirtual 27, 3, .null), none, none, some (.iload 21, 2, .null), none, some (.iload 22, 2, .null)],
  [none, some (.isub, 1, .null), some (.if_icmp .eq 5, 3, .retAddr 743), none, none, some (.iconst 0, 1, .int (0)), some (.ireturn, 1, .null), some (.iinc 22 1, 3, .int (1)), none, none, some (.goto (-68), 3, .retAddr 678), none, none, some (.aload_n 2, 1, .null), some (.iconst 0, 1, .int (0)), some (.iload 20, 2, .null)],
  [none, some (.invokevirtual 58, 3, .null), none, none, some (.sipush (-1003), 3, .int (-1003)), none, none, some (.if_icmp .eq 5, 3, .retAddr 764), none, none, some (.iconst 0, 1, .int (0)), some (.ireturn, 1, .null), some (.aload_n 2, 1, .null), some (.invokevirtual 66, 3, .null), none, none],
  [some (.pop, 1, .null), some (.aload_n 2, 1, .null), some (.iconst 0, 1, .int (0)), some (.iconst 0, 1, .int (0)), some (.invokevirtual 55, 3, .null), none, none, some (.iconst (-1), 1, .int (-1)), some (.if_icmp .ne 21, 3, .retAddr 797), none, none, some (.aload_n 2, 1, .null), some (.iconst 0, 1, .int (0)), some (.iconst 2, 1, .int (2)), some (.invokevirtual 55, 3, .null), none],
  [none, some (.iconst (-1), 1, .int (-1)), some (.if_icmp .ne 11, 3, .retAddr 797), none, none, some (.aload_n 2, 1, .null), some (.iconst 1, 1, .int (1)), some (.invokevirtual 69, 3, .null), none, none, some (.ifCond .eq 5, 3, .retAddr 799), none, none, some (.iconst 0, 1, .int (0)), some (.ireturn, 1, .null), some (.aload_n 2, 1, .null)],
  [some (.iconst 0, 1, .int (0)), some (.iconst 0, 1, .int (0)), some (.bipush 9, 2, .int (9)), none, some (.invokevirtual 73, 3, .null), none, none, some (.pop, 1, .null), some (.aload_n 2, 1, .null), some (.iconst 0, 1, .int (0)), some (.iconst 0, 1, .int (0)), some (.iconst 0, 1, .int (0)), some (.invokevirtual 76, 3, .null), none, none, some (.iconst (-1), 1, .int (-1))],
  [some (.if_icmp .ne 70, 3, .retAddr 886), none, none, some (.aload_n 2, 1, .null), some (.iconst 0, 1, .int (0)), some (.iconst 0, 1, .int (0)), some (.iconst 2, 1, .int (2)), some (.invokevirtual 76, 3, .null), none, none, some (.sipush 1023, 3, .int (1023)), none, none, some (.if_icmp .ne 57, 3, .retAddr 886), none, none],
  [some (.aload_n 2, 1, .null), some (.iconst 0, 1, .int (0)), some (.iconst 0, 1, .int (0)), some (.iconst 4, 1, .int (4)), some (.invokevirtual 76, 3, .null), none, none, some (.sipush 199, 3, .int (199)), none, none, some (.if_icmp .ne 44, 3, .retAddr 886), none, none, some (.aload_n 2, 1, .null), some (.iconst 0, 1, .int (0)), some (.iconst 0, 1, .int (0))],
  [some (.iconst 5, 1, .int (5)), some (.invokevirtual 76, 3, .null), none, none, some (.bipush (-99), 2, .int (-99)), none, some (.if_icmp .ne 32, 3, .retAddr 886), none, none, some (.aload_n 2, 1, .null), some (.iconst 0, 1, .int (0)), some (.iconst 0, 1, .int (0)), some (.iconst 1, 1, .int (1)), some (.invokevirtual 76, 3, .null), none, none],
  [some (.iconst 1, 1, .int (1)), some (.iand, 1, .null), some (.iconst 1, 1, .int (1)), some (.if_icmp .ne 19, 3, .retAddr 886), none, none, some (.aload_n 2, 1, .null), some (.iconst 0, 1, .int (0)), some (.iconst 0, 1, .int (0)), some (.iconst 3, 1, .int (3)), some (.invokevirtual 76, 3, .null), none, none, some (.iload 4, 2, .null), none, some (.ishr, 1, .null)],
  [some (.iconst 1, 1, .int (1)), some (.iand, 1, .null), some (.iconst 1, 1, .int (1)), some (.if_icmp .eq 5, 3, .retAddr 888), none, none, some (.iconst 0, 1, .int (0)), some (.ireturn, 1, .null), some (.iinc 1 1, 3, .int (1)), none, none, some (.goto (-889), 3, .retAddr 2), none, none, some (.iconst 1, 1, .int (1)), some (.ireturn, 1, .null)]]
abbrev mL_law : Nat := 213
def rc_214 : ri_CD := [[some (.iload_n 1, 1, .null), some (.bipush 40, 2, .int (40)), none, some (.if_icmp .ne 17, 3, .retAddr 20), none, none, some (.aload_n 0, 1, .null), some (.iload_n 2, 1, .null), some (.invokevirtual 57, 3, .null), none, none, some (.aload_n 0, 1, .null), some (.bipush 41, 2, .int (41)), none, some (.invokevirtual 53, 3, .null), none],
  [none, some (.goto 17, 3, .retAddr 34), none, none, some (.aload_n 0, 1, .null), some (.iload_n 2, 1, .null), some (.invokevirtual 160, 3, .null), none, none, some (.aload_n 0, 1, .null), some (.getfield 37, 3, .null), none, none, some (.bipush (-7), 2, .int (-7)), none, some (.invokevirtual 148, 3, .null)],
  [none, none, some (.return_, 1, .null)]]
abbrev mX0_readOpened : Nat := 214
def rc_215 : ri_CD := [[some (.iload_n 1, 1, .null), some (.aload_n 0, 1, .null), some (.arraylength, 1, .null), some (.if_icmp .ge 9, 3, .retAddr 12), none, none, some (.aload_n 0, 1, .null), some (.iload_n 1, 1, .null), some (.iaload, 1, .null), some (.goto 11, 3, .retAddr 20), none, none, some (.sipush 7919, 3, .int (7919)), none, none, some (.iload_n 1, 1, .null)],
  [some (.imul, 1, .null), some (.bipush 12, 2, .int (12)), none, some (.iadd, 1, .null), some (.ireturn, 1, .null)]]
abbrev mL_cell : Nat := 215
def rc_216 : ri_CD := [[some (.aload_n 0, 1, .null), some (.iload_n 1, 1, .null), some (.invokestatic 7, 3, .null), none, none, some (.iconst 3, 1, .int (3)), some (.iushr, 1, .null), some (.iload_n 2, 1, .null), some (.irem, 1, .null), some (.ireturn, 1, .null)]]
abbrev mL_some : Nat := 216
def rm_0 : ri_MT := (yX0_take, cX0_take, 2, (some .int), 0, 1, 1, [238, 37, 236, 237], rc_0)
def rm_1 : ri_MT := (yX0_readText, cX0_readText, 2, (some .int), 0, 1, 0, [245, 37, 243, 244], rc_1)
def rm_2 : ri_MT := (yX0_cut, cX0_cut, 6, none, 0, 1, 0, [249, 37, 248, 0], rc_2)
def rm_3 : ri_MT := (yX0_add, cX0_add, 4, none, 0, 1, 3, [299, 37, 298, 6], rc_3)
def rm_4 : ri_MT := (yX0_tokenEnd, cX0_tokenEnd, 4, (some .int), 0, 1, 1, [259, 37, 258, 1], rc_4)
def rm_5 : ri_MT := (yX0_sortOf, cX0_sortOf, 4, (some .int), 0, 1, 2, [269, 37, 268, 2], rc_5)
def rm_6 : ri_MT := (yX0_wordSort, cX0_wordSort, 4, (some .int), 0, 1, 2, [273, 37, 272, 3], rc_6)
def rm_7 : ri_MT := (yX0_spells, cX0_spells, 5, (some .boolean), 0, 1, 3, [278, 37, 277, 4], rc_7)
def rm_8 : ri_MT := (yX0_numberOf, cX0_numberOf, 5, (some .int), 0, 1, 2, [295, 37, 294, 5], rc_8)
def rm_9 : ri_MT := (yX0_isBlank, cX0_isBlank, 1, (some .boolean), 0, 0, 1, [255, 37, 254], rc_9)
def rm_10 : ri_MT := (yX0_isLetter, cX0_isLetter, 1, (some .boolean), 0, 0, 1, [262, 37, 261], rc_10)
def rm_11 : ri_MT := (yX0_isDigit, cX0_isDigit, 1, (some .boolean), 0, 0, 1, [265, 37, 264], rc_11)
def rm_12 : ri_MT := (yX0_token, cX0_token, 1, (some .int), 0, 1, 0, [316, 37, 315, 9], rc_12)
def rm_13 : ri_MT := (yX0_may, cX0_may, 2, (some .boolean), 0, 1, 1, [312, 37, 311, 8], rc_13)
def rm_14 : ri_MT := (yX0_must, cX0_must, 2, none, 0, 1, 1, [308, 37, 307, 7], rc_14)
def rm_15 : ri_MT := (yX0_fails, cX0_fails, 2, none, 0, 1, 1, [320, 37, 319, 10], rc_15)
def rm_16 : ri_MT := (yX0_readOr, cX0_readOr, 3, none, 0, 1, 1, [324, 37, 323, 11], rc_16)
def rm_17 : ri_MT := (yX0_readAnd, cX0_readAnd, 3, none, 0, 1, 1, [328, 37, 327, 12], rc_17)
def rm_18 : ri_MT := (yX0_readNot, cX0_readNot, 3, none, 0, 1, 1, [332, 37, 331, 13], rc_18)
def rm_19 : ri_MT := (yX0_readSum, cX0_readSum, 4, none, 0, 1, 1, [340, 37, 339, 14], rc_19)
def rm_20 : ri_MT := (yX0_readTerm, cX0_readTerm, 3, none, 0, 1, 1, [344, 37, 343, 15], rc_20)
def rm_21 : ri_MT := (yX0_readOne, cX0_readOne, 3, none, 0, 1, 1, [348, 37, 347, 16], rc_21)
def rm_22 : ri_MT := (yX1_isMissing, cX1_isMissing, 1, (some .boolean), 1, 1, 0, [582, 39, 580, 581], rc_22)
def rm_23 : ri_MT := (yX0_isBlank, cX0_isBlank, 1, (some .boolean), 0, 2, 1, [255, 37], rc_23)
def rm_24 : ri_MT := (yX1_becomes, cX1_becomes, 3, none, 1, 1, 2, [610, 39, 608, 609], rc_24)
def rm_25 : ri_MT := (yX1_lay, cX1_lay, 3, none, 1, 1, 2, [615, 39, 613, 614], rc_25)
def rm_26 : ri_MT := (yX0_isBlank, cX0_isBlank, 1, (some .boolean), 0, 2, 1, [255, 37], rc_26)
def rm_27 : ri_MT := (yX2_begin, cX2_begin, 1, none, 2, 1, 0, [303, 36, 301, 302], rc_27)
def rm_28 : ri_MT := (yX2_write, cX2_write, 2, none, 2, 1, 1, [336, 36, 334, 335], rc_28)
def rm_29 : ri_MT := (yX2_endPart, cX2_endPart, 2, none, 2, 1, 1, [356, 36, 354, 355], rc_29)
def rm_30 : ri_MT := (yX2_tell, cX2_tell, 9, (some .int), 2, 1, 3, [449, 36, 447, 448], rc_30)
def rm_31 : ri_MT := (yX2_hasStep, cX2_hasStep, 6, (some .boolean), 2, 1, 2, [602, 36, 600, 601], rc_31)
def rm_32 : ri_MT := (yX2_joined, cX2_joined, 3, (some .int), 2, 0, 3, [453, 36, 452], rc_32)
def rm_33 : ri_MT := (yX3_becomes, cX3_becomes, 2, none, 3, 1, 1, [510, 38, 508, 509], rc_33)
def rm_34 : ri_MT := (yX3_has, cX3_has, 2, (some .boolean), 3, 1, 1, [432, 38, 430, 431], rc_34)
def rm_35 : ri_MT := (yX3_comes, cX3_comes, 5, (some .int), 3, 1, 3, [423, 38, 421, 422], rc_35)
def rm_36 : ri_MT := (yX3_whoAreAt, cX3_whoAreAt, 4, (some .int), 3, 1, 1, [472, 38, 470, 471], rc_36)
def rm_37 : ri_MT := (yX3_inAllJars, cX3_inAllJars, 3, (some .int), 3, 1, 0, [490, 38, 488, 489], rc_37)
def rm_38 : ri_MT := (yX0_isBlank, cX0_isBlank, 1, (some .boolean), 0, 2, 1, [255, 37], rc_38)
def rm_39 : ri_MT := (yX3_goYear, cX3_goYear, 7, none, 3, 1, 1, [483, 38, 481, 482], rc_39)
def rm_40 : ri_MT := (yX3_takes, cX3_takes, 5, (some .int), 3, 1, 1, [436, 38, 434, 435], rc_40)
def rm_41 : ri_MT := (yX3_putsBy, cX3_putsBy, 4, (some .int), 3, 1, 1, [466, 38, 464, 465], rc_41)
def rm_42 : ri_MT := (yX3_feels, cX3_feels, 5, (some .int), 3, 1, 2, [502, 38, 500, 501], rc_42)
def rm_43 : ri_MT := (yX3_eats, cX3_eats, 4, (some .int), 3, 1, 2, [498, 38, 496, 497], rc_43)
def rm_44 : ri_MT := (yX3_bothJars, cX3_bothJars, 2, (some .int), 3, 1, 1, [441, 38, 440, 21], rc_44)
def rm_45 : ri_MT := (yX3_namesOf, cX3_namesOf, 3, (some (.array .int)), 3, 1, 2, [445, 38, 444, 22], rc_45)
def rm_46 : ri_MT := (yX4_init, cX4_init, 2, none, 4, 2, 0, [49, 35], rc_46)
def rm_47 : ri_MT := (yX4_set, cX4_set, 6, (some .int), 4, 1, 3, [395, 35, 393, 394], rc_47)
def rm_48 : ri_MT := (yX4_life, cX4_life, 4, (some .int), 4, 1, 3, [419, 35, 417, 418], rc_48)
def rm_49 : ri_MT := (yX4_told, cX4_told, 4, (some .int), 4, 1, 2, [428, 35, 426, 427], rc_49)
def rm_50 : ri_MT := (yX0_isBlank, cX0_isBlank, 1, (some .boolean), 0, 2, 1, [255, 37], rc_50)
def rm_51 : ri_MT := (yX0_isBlank, cX0_isBlank, 1, (some .boolean), 0, 2, 1, [255, 37], rc_51)
def rm_52 : ri_MT := (yX0_isBlank, cX0_isBlank, 1, (some .boolean), 0, 2, 1, [255, 37], rc_52)
def rm_53 : ri_MT := (yX0_isBlank, cX0_isBlank, 1, (some .boolean), 0, 2, 1, [255, 37], rc_53)
def rm_54 : ri_MT := (yX4_year, cX4_year, 1, (some .int), 4, 1, 0, [479, 35, 477, 478], rc_54)
def rm_55 : ri_MT := (yX4_spoon, cX4_spoon, 3, (some .int), 4, 1, 2, [494, 35, 492, 493], rc_55)
def rm_56 : ri_MT := (yX4_run, cX4_run, 7, (some .int), 4, 1, 3, [506, 35, 504, 505], rc_56)
def rm_57 : ri_MT := (yX4_otherwise, cX4_otherwise, 5, (some .int), 4, 1, 3, [518, 35, 516, 517], rc_57)
def rm_58 : ri_MT := (yX4_turns, cX4_turns, 4, (some .long), 4, 1, 3, [522, 35, 520, 521], rc_58)
def rm_59 : ri_MT := (yX4_likely, cX4_likely, 5, (some .long), 4, 1, 4, [535, 35, 533, 534], rc_59)
def rm_60 : ri_MT := (yX4_fewest, cX4_fewest, 5, (some .int), 4, 1, 3, [545, 35, 543, 544], rc_60)
def rm_61 : ri_MT := (yX0_isBlank, cX0_isBlank, 1, (some .boolean), 0, 2, 1, [255, 37], rc_61)
def rm_62 : ri_MT := (yX0_isBlank, cX0_isBlank, 1, (some .boolean), 0, 2, 1, [255, 37], rc_62)
def rm_63 : ri_MT := (yX4_best, cX4_best, 4, (some .int), 4, 1, 2, [561, 35, 559, 560], rc_63)
def rm_64 : ri_MT := (yX4_tells, cX4_tells, 5, (some .int), 4, 1, 3, [574, 35, 572, 573], rc_64)
def rm_65 : ri_MT := (yX4_film, cX4_film, 6, (some .int), 4, 1, 3, [606, 35, 604, 605], rc_65)
def rm_66 : ri_MT := (yX0_isBlank, cX0_isBlank, 1, (some .boolean), 0, 2, 1, [255, 37], rc_66)
def rm_67 : ri_MT := (yX0_isBlank, cX0_isBlank, 1, (some .boolean), 0, 2, 1, [255, 37], rc_67)
def rm_68 : ri_MT := (yX4_image, cX4_image, 1, (some .int), 4, 1, 0, [620, 35, 618, 619], rc_68)
def rm_69 : ri_MT := (yX4_back, cX4_back, 1, (some .int), 4, 1, 0, [624, 35, 622, 623], rc_69)
def rm_70 : ri_MT := (yX4_count, cX4_count, 2, (some .int), 4, 1, 1, [628, 35, 626, 627], rc_70)
def rm_71 : ri_MT := (yX0_isBlank, cX0_isBlank, 1, (some .boolean), 0, 2, 1, [255, 37], rc_71)
def rm_72 : ri_MT := (yX0_isBlank, cX0_isBlank, 1, (some .boolean), 0, 2, 1, [255, 37], rc_72)
def rm_73 : ri_MT := (yX0_isBlank, cX0_isBlank, 1, (some .boolean), 0, 2, 1, [255, 37], rc_73)
def rm_74 : ri_MT := (yX0_isBlank, cX0_isBlank, 1, (some .boolean), 0, 2, 1, [255, 37], rc_74)
def rm_75 : ri_MT := (yX0_isBlank, cX0_isBlank, 1, (some .boolean), 0, 2, 1, [255, 37], rc_75)
def rm_76 : ri_MT := (yX4_setYear, cX4_setYear, 3, (some .int), 4, 1, 1, [399, 35, 398, 18], rc_76)
def rm_77 : ri_MT := (yX4_rowOf, cX4_rowOf, 2, (some (.array .int)), 4, 1, 1, [403, 35, 402, 19], rc_77)
def rm_78 : ri_MT := (yX4_sizeOf, cX4_sizeOf, 2, (some .int), 4, 1, 1, [407, 35, 406, 20], rc_78)
def rm_79 : ri_MT := (yX4_holds, cX4_holds, 2, (some .boolean), 4, 0, 2, [413, 35, 412], rc_79)
def rm_80 : ri_MT := (yX4_waysOf, cX4_waysOf, 5, (some .long), 4, 1, 3, [527, 35, 526, 23], rc_80)
def rm_81 : ri_MT := (yX4_wayAYear, cX4_wayAYear, 3, none, 4, 1, 0, [531, 35, 530, 24], rc_81)
def rm_82 : ri_MT := (yX4_costAYear, cX4_costAYear, 5, none, 4, 1, 1, [552, 35, 551, 25], rc_82)
def rm_83 : ri_MT := (yX4_lessen, cX4_lessen, 4, none, 4, 1, 2, [556, 35, 555, 26], rc_83)
def rm_84 : ri_MT := (yX4_lowest, cX4_lowest, 9, (some .long), 4, 0, 3, [538, 35, 537], rc_84)
def rm_85 : ri_MT := (yX4_commonDivisor, cX4_commonDivisor, 11, (some .long), 4, 0, 2, [541, 35, 540], rc_85)
def rm_86 : ri_MT := (yX0_isBlank, cX0_isBlank, 1, (some .boolean), 0, 2, 1, [255, 37], rc_86)
def rm_87 : ri_MT := (yX4_sweetestJar, cX4_sweetestJar, 6, (some .int), 4, 1, 1, [569, 35, 568, 28], rc_87)
def rm_88 : ri_MT := (yX4_fullestJar, cX4_fullestJar, 5, (some .int), 4, 1, 0, [565, 35, 564, 27], rc_88)
def rm_89 : ri_MT := (yX0_isBlank, cX0_isBlank, 1, (some .boolean), 0, 2, 1, [255, 37], rc_89)
def rm_90 : ri_MT := (yX4_toldBits, cX4_toldBits, 7, (some .int), 4, 1, 4, [594, 35, 593, 32], rc_90)
def rm_91 : ri_MT := (yX4_toldMoods, cX4_toldMoods, 9, (some .int), 4, 1, 3, [598, 35, 597, 33], rc_91)
def rm_92 : ri_MT := (yX4_firstOtherwise, cX4_firstOtherwise, 7, (some .int), 4, 1, 4, [586, 35, 585, 30], rc_92)
def rm_93 : ri_MT := (yX4_suppose, cX4_suppose, 4, (some .int), 4, 1, 3, [590, 35, 589, 31], rc_93)
def rm_94 : ri_MT := (yX4_sheetOf, cX4_sheetOf, 2, (some (.object "RoadsNotGoneBy$Sheet")), 4, 1, 1, [578, 35, 577, 29], rc_94)
def rm_95 : ri_MT := (yX4_within, cX4_within, 2, (some .boolean), 4, 0, 2, [410, 35, 409], rc_95)
def rm_96 : ri_MT := (yX4_held, cX4_held, 3, (some .int), 4, 0, 3, [456, 35, 455], rc_96)
def rm_97 : ri_MT := (yX4_bit, cX4_bit, 1, (some .int), 4, 0, 1, [475, 35, 474], rc_97)
def rm_98 : ri_MT := (yX4_item, cX4_item, 2, (some .int), 4, 0, 2, [252, 35, 251], rc_98)
def rm_99 : ri_MT := (yX4_putItem, cX4_putItem, 3, none, 4, 0, 3, [241, 35, 240], rc_99)
def rm_100 : ri_MT := (yX4_fill, cX4_fill, 3, none, 4, 0, 2, [548, 35, 547], rc_100)
def rm_101 : ri_MT := (yX4_copyRow, cX4_copyRow, 3, none, 4, 0, 2, [513, 35, 512], rc_101)
def rm_102 : ri_MT := (yX0_isBlank, cX0_isBlank, 1, (some .boolean), 0, 2, 1, [255, 37], rc_102)
def rm_103 : ri_MT := (yX0_isBlank, cX0_isBlank, 1, (some .boolean), 0, 2, 1, [255, 37], rc_103)
def rm_104 : ri_MT := (yX0_isBlank, cX0_isBlank, 1, (some .boolean), 0, 2, 1, [255, 37], rc_104)
def rm_105 : ri_MT := (yX0_isBlank, cX0_isBlank, 1, (some .boolean), 0, 2, 1, [255, 37], rc_105)
def rm_106 : ri_MT := (yX0_isBlank, cX0_isBlank, 1, (some .boolean), 0, 2, 1, [255, 37], rc_106)
def rm_107 : ri_MT := (yX0_isBlank, cX0_isBlank, 1, (some .boolean), 0, 2, 1, [255, 37], rc_107)
def rm_108 : ri_MT := (yX0_isBlank, cX0_isBlank, 1, (some .boolean), 0, 2, 1, [255, 37], rc_108)
def rm_109 : ri_MT := (yX0_isBlank, cX0_isBlank, 1, (some .boolean), 0, 2, 1, [255, 37], rc_109)
def rm_110 : ri_MT := (yX0_isBlank, cX0_isBlank, 1, (some .boolean), 0, 2, 1, [255, 37], rc_110)
def rm_111 : ri_MT := (yX0_isBlank, cX0_isBlank, 1, (some .boolean), 0, 2, 1, [255, 37], rc_111)
def rm_112 : ri_MT := (yX0_isBlank, cX0_isBlank, 1, (some .boolean), 0, 2, 1, [255, 37], rc_112)
def rm_113 : ri_MT := (yX0_isBlank, cX0_isBlank, 1, (some .boolean), 0, 2, 1, [255, 37], rc_113)
def rm_114 : ri_MT := (yX0_isBlank, cX0_isBlank, 1, (some .boolean), 0, 2, 1, [255, 37], rc_114)
def rm_115 : ri_MT := (yX0_isBlank, cX0_isBlank, 1, (some .boolean), 0, 2, 1, [255, 37], rc_115)
def rm_116 : ri_MT := (yX0_isBlank, cX0_isBlank, 1, (some .boolean), 0, 2, 1, [255, 37], rc_116)
def rm_117 : ri_MT := (yX0_isBlank, cX0_isBlank, 1, (some .boolean), 0, 2, 1, [255, 37], rc_117)
def rm_118 : ri_MT := (yX0_isBlank, cX0_isBlank, 1, (some .boolean), 0, 2, 1, [255, 37], rc_118)
def rm_119 : ri_MT := (yX0_isBlank, cX0_isBlank, 1, (some .boolean), 0, 2, 1, [255, 37], rc_119)
def rm_120 : ri_MT := (yX0_isBlank, cX0_isBlank, 1, (some .boolean), 0, 2, 1, [255, 37], rc_120)
def rm_121 : ri_MT := (yX0_isBlank, cX0_isBlank, 1, (some .boolean), 0, 2, 1, [255, 37], rc_121)
def rm_122 : ri_MT := (yX0_isBlank, cX0_isBlank, 1, (some .boolean), 0, 2, 1, [255, 37], rc_122)
def rm_123 : ri_MT := (yX0_isBlank, cX0_isBlank, 1, (some .boolean), 0, 2, 1, [255, 37], rc_123)
def rm_124 : ri_MT := (yX0_isBlank, cX0_isBlank, 1, (some .boolean), 0, 2, 1, [255, 37], rc_124)
def rm_125 : ri_MT := (yX0_isBlank, cX0_isBlank, 1, (some .boolean), 0, 2, 1, [255, 37], rc_125)
def rm_126 : ri_MT := (yX0_isBlank, cX0_isBlank, 1, (some .boolean), 0, 2, 1, [255, 37], rc_126)
def rm_127 : ri_MT := (yX0_isBlank, cX0_isBlank, 1, (some .boolean), 0, 2, 1, [255, 37], rc_127)
def rm_128 : ri_MT := (yX0_isBlank, cX0_isBlank, 1, (some .boolean), 0, 2, 1, [255, 37], rc_128)
def rm_129 : ri_MT := (yX0_isBlank, cX0_isBlank, 1, (some .boolean), 0, 2, 1, [255, 37], rc_129)
def rm_130 : ri_MT := (yX0_isBlank, cX0_isBlank, 1, (some .boolean), 0, 2, 1, [255, 37], rc_130)
def rm_131 : ri_MT := (yX0_isBlank, cX0_isBlank, 1, (some .boolean), 0, 2, 1, [255, 37], rc_131)
def rm_132 : ri_MT := (yX0_isBlank, cX0_isBlank, 1, (some .boolean), 0, 2, 1, [255, 37], rc_132)
def rm_133 : ri_MT := (yX0_isBlank, cX0_isBlank, 1, (some .boolean), 0, 2, 1, [255, 37], rc_133)
def rm_134 : ri_MT := (yX0_isBlank, cX0_isBlank, 1, (some .boolean), 0, 2, 1, [255, 37], rc_134)
def rm_135 : ri_MT := (yX0_isBlank, cX0_isBlank, 1, (some .boolean), 0, 2, 1, [255, 37], rc_135)
def rm_136 : ri_MT := (yX0_isBlank, cX0_isBlank, 1, (some .boolean), 0, 2, 1, [255, 37], rc_136)
def rm_137 : ri_MT := (yX0_isBlank, cX0_isBlank, 1, (some .boolean), 0, 2, 1, [255, 37], rc_137)
def rm_138 : ri_MT := (yX0_isBlank, cX0_isBlank, 1, (some .boolean), 0, 2, 1, [255, 37], rc_138)
def rm_139 : ri_MT := (yX0_isBlank, cX0_isBlank, 1, (some .boolean), 0, 2, 1, [255, 37], rc_139)
def rm_140 : ri_MT := (yX0_isBlank, cX0_isBlank, 1, (some .boolean), 0, 2, 1, [255, 37], rc_140)
def rm_141 : ri_MT := (yX0_isBlank, cX0_isBlank, 1, (some .boolean), 0, 2, 1, [255, 37], rc_141)
def rm_142 : ri_MT := (yX0_isBlank, cX0_isBlank, 1, (some .boolean), 0, 2, 1, [255, 37], rc_142)
def rm_143 : ri_MT := (yX0_isBlank, cX0_isBlank, 1, (some .boolean), 0, 2, 1, [255, 37], rc_143)
def rm_144 : ri_MT := (yX0_isBlank, cX0_isBlank, 1, (some .boolean), 0, 2, 1, [255, 37], rc_144)
def rm_145 : ri_MT := (yX0_isBlank, cX0_isBlank, 1, (some .boolean), 0, 2, 1, [255, 37], rc_145)
def rm_146 : ri_MT := (yX0_isBlank, cX0_isBlank, 1, (some .boolean), 0, 2, 1, [255, 37], rc_146)
def rm_147 : ri_MT := (yX0_isBlank, cX0_isBlank, 1, (some .boolean), 0, 2, 1, [255, 37], rc_147)
def rm_148 : ri_MT := (yX0_isBlank, cX0_isBlank, 1, (some .boolean), 0, 2, 1, [255, 37], rc_148)
def rm_149 : ri_MT := (yX0_isBlank, cX0_isBlank, 1, (some .boolean), 0, 2, 1, [255, 37], rc_149)
def rm_150 : ri_MT := (yX0_isBlank, cX0_isBlank, 1, (some .boolean), 0, 2, 1, [255, 37], rc_150)
def rm_151 : ri_MT := (yX0_isBlank, cX0_isBlank, 1, (some .boolean), 0, 2, 1, [255, 37], rc_151)
def rm_152 : ri_MT := (yX0_isBlank, cX0_isBlank, 1, (some .boolean), 0, 2, 1, [255, 37], rc_152)
def rm_153 : ri_MT := (yX0_isBlank, cX0_isBlank, 1, (some .boolean), 0, 2, 1, [255, 37], rc_153)
def rm_154 : ri_MT := (yX0_isBlank, cX0_isBlank, 1, (some .boolean), 0, 2, 1, [255, 37], rc_154)
def rm_155 : ri_MT := (yX0_isBlank, cX0_isBlank, 1, (some .boolean), 0, 2, 1, [255, 37], rc_155)
def rm_156 : ri_MT := (yX0_isBlank, cX0_isBlank, 1, (some .boolean), 0, 2, 1, [255, 37], rc_156)
def rm_157 : ri_MT := (yX0_isBlank, cX0_isBlank, 1, (some .boolean), 0, 2, 1, [255, 37], rc_157)
def rm_158 : ri_MT := (yX0_isBlank, cX0_isBlank, 1, (some .boolean), 0, 2, 1, [255, 37], rc_158)
def rm_159 : ri_MT := (yX0_isBlank, cX0_isBlank, 1, (some .boolean), 0, 2, 1, [255, 37], rc_159)
def rm_160 : ri_MT := (yX0_isBlank, cX0_isBlank, 1, (some .boolean), 0, 2, 1, [255, 37], rc_160)
def rm_161 : ri_MT := (yX0_isBlank, cX0_isBlank, 1, (some .boolean), 0, 2, 1, [255, 37], rc_161)
def rm_162 : ri_MT := (yX0_isBlank, cX0_isBlank, 1, (some .boolean), 0, 2, 1, [255, 37], rc_162)
def rm_163 : ri_MT := (yX0_isBlank, cX0_isBlank, 1, (some .boolean), 0, 2, 1, [255, 37], rc_163)
def rm_164 : ri_MT := (yX0_isBlank, cX0_isBlank, 1, (some .boolean), 0, 2, 1, [255, 37], rc_164)
def rm_165 : ri_MT := (yX0_isBlank, cX0_isBlank, 1, (some .boolean), 0, 2, 1, [255, 37], rc_165)
def rm_166 : ri_MT := (yX0_isBlank, cX0_isBlank, 1, (some .boolean), 0, 2, 1, [255, 37], rc_166)
def rm_167 : ri_MT := (yX0_isBlank, cX0_isBlank, 1, (some .boolean), 0, 2, 1, [255, 37], rc_167)
def rm_168 : ri_MT := (yX0_isBlank, cX0_isBlank, 1, (some .boolean), 0, 2, 1, [255, 37], rc_168)
def rm_169 : ri_MT := (yX0_isBlank, cX0_isBlank, 1, (some .boolean), 0, 2, 1, [255, 37], rc_169)
def rm_170 : ri_MT := (yX0_isBlank, cX0_isBlank, 1, (some .boolean), 0, 2, 1, [255, 37], rc_170)
def rm_171 : ri_MT := (yX0_isBlank, cX0_isBlank, 1, (some .boolean), 0, 2, 1, [255, 37], rc_171)
def rm_172 : ri_MT := (yX0_isBlank, cX0_isBlank, 1, (some .boolean), 0, 2, 1, [255, 37], rc_172)
def rm_173 : ri_MT := (yX0_isBlank, cX0_isBlank, 1, (some .boolean), 0, 2, 1, [255, 37], rc_173)
def rm_174 : ri_MT := (yX0_isBlank, cX0_isBlank, 1, (some .boolean), 0, 2, 1, [255, 37], rc_174)
def rm_175 : ri_MT := (yX0_isBlank, cX0_isBlank, 1, (some .boolean), 0, 2, 1, [255, 37], rc_175)
def rm_176 : ri_MT := (yX0_isBlank, cX0_isBlank, 1, (some .boolean), 0, 2, 1, [255, 37], rc_176)
def rm_177 : ri_MT := (yX0_isBlank, cX0_isBlank, 1, (some .boolean), 0, 2, 1, [255, 37], rc_177)
def rm_178 : ri_MT := (yX0_isBlank, cX0_isBlank, 1, (some .boolean), 0, 2, 1, [255, 37], rc_178)
def rm_179 : ri_MT := (yX0_isBlank, cX0_isBlank, 1, (some .boolean), 0, 2, 1, [255, 37], rc_179)
def rm_180 : ri_MT := (yX0_isBlank, cX0_isBlank, 1, (some .boolean), 0, 2, 1, [255, 37], rc_180)
def rm_181 : ri_MT := (yX0_isBlank, cX0_isBlank, 1, (some .boolean), 0, 2, 1, [255, 37], rc_181)
def rm_182 : ri_MT := (yX0_isBlank, cX0_isBlank, 1, (some .boolean), 0, 2, 1, [255, 37], rc_182)
def rm_183 : ri_MT := (yX0_isBlank, cX0_isBlank, 1, (some .boolean), 0, 2, 1, [255, 37], rc_183)
def rm_184 : ri_MT := (yX0_isBlank, cX0_isBlank, 1, (some .boolean), 0, 2, 1, [255, 37], rc_184)
def rm_185 : ri_MT := (yX0_isBlank, cX0_isBlank, 1, (some .boolean), 0, 2, 1, [255, 37], rc_185)
def rm_186 : ri_MT := (yX0_isBlank, cX0_isBlank, 1, (some .boolean), 0, 2, 1, [255, 37], rc_186)
def rm_187 : ri_MT := (yX0_isBlank, cX0_isBlank, 1, (some .boolean), 0, 2, 1, [255, 37], rc_187)
def rm_188 : ri_MT := (yX0_isBlank, cX0_isBlank, 1, (some .boolean), 0, 2, 1, [255, 37], rc_188)
def rm_189 : ri_MT := (yX0_isBlank, cX0_isBlank, 1, (some .boolean), 0, 2, 1, [255, 37], rc_189)
def rm_190 : ri_MT := (yX0_isBlank, cX0_isBlank, 1, (some .boolean), 0, 2, 1, [255, 37], rc_190)
def rm_191 : ri_MT := (yX0_isBlank, cX0_isBlank, 1, (some .boolean), 0, 2, 1, [255, 37], rc_191)
def rm_192 : ri_MT := (yX0_isBlank, cX0_isBlank, 1, (some .boolean), 0, 2, 1, [255, 37], rc_192)
def rm_193 : ri_MT := (yX0_isBlank, cX0_isBlank, 1, (some .boolean), 0, 2, 1, [255, 37], rc_193)
def rm_194 : ri_MT := (yX0_isBlank, cX0_isBlank, 1, (some .boolean), 0, 2, 1, [255, 37], rc_194)
def rm_195 : ri_MT := (yX0_isBlank, cX0_isBlank, 1, (some .boolean), 0, 2, 1, [255, 37], rc_195)
def rm_196 : ri_MT := (yX0_isBlank, cX0_isBlank, 1, (some .boolean), 0, 2, 1, [255, 37], rc_196)
def rm_197 : ri_MT := (yX0_isBlank, cX0_isBlank, 1, (some .boolean), 0, 2, 1, [255, 37], rc_197)
def rm_198 : ri_MT := (yX0_isBlank, cX0_isBlank, 1, (some .boolean), 0, 2, 1, [255, 37], rc_198)
def rm_199 : ri_MT := (yX0_isBlank, cX0_isBlank, 1, (some .boolean), 0, 2, 1, [255, 37], rc_199)
def rm_200 : ri_MT := (yX0_isBlank, cX0_isBlank, 1, (some .boolean), 0, 2, 1, [255, 37], rc_200)
def rm_201 : ri_MT := (yX0_isBlank, cX0_isBlank, 1, (some .boolean), 0, 2, 1, [255, 37], rc_201)
def rm_202 : ri_MT := (yX0_isBlank, cX0_isBlank, 1, (some .boolean), 0, 2, 1, [255, 37], rc_202)
def rm_203 : ri_MT := (yX0_isBlank, cX0_isBlank, 1, (some .boolean), 0, 2, 1, [255, 37], rc_203)
def rm_204 : ri_MT := (yX0_isBlank, cX0_isBlank, 1, (some .boolean), 0, 2, 1, [255, 37], rc_204)
def rm_205 : ri_MT := (yX0_isBlank, cX0_isBlank, 1, (some .boolean), 0, 2, 1, [255, 37], rc_205)
def rm_206 : ri_MT := (yJ0_length_8abf5, cJ0_length_8abf5, 1, (some .int), 7, 1, 0, [190, 40, 188, 189], rc_206)
def rm_207 : ri_MT := (yJ0_charAt_5068e, cJ0_charAt_5068e, 2, (some .char), 7, 1, 1, [200, 40, 198, 199], rc_207)
def rm_208 : ri_MT := (yJ0_coder_7d493, cJ0_coder_7d493, 1, (some .byte), 7, 1, 0, [194, 40, 192, 193], rc_208)
def rm_209 : ri_MT := (yJ0_isLatin1_aae02, cJ0_isLatin1_aae02, 1, (some .boolean), 7, 1, 0, [204, 40, 202, 203], rc_209)
def rm_210 : ri_MT := (yJ0_checkIndex_df160, cJ0_checkIndex_df160, 2, none, 7, 0, 2, [210, 40, 209], rc_210)
def rm_211 : ri_MT := (yJ1_charAt_3b067, cJ1_charAt_3b067, 2, (some .char), 8, 0, 2, [207, 41, 206], rc_211)
def rm_212 : ri_MT := (yJ3_checkIndex_8e157, cJ3_checkIndex_8e157, 3, (some .int), 9, 0, 3, [215, 42, 214], rc_212)
def rm_213 : ri_MT := (⟨RL, "law", "([I)Z"⟩, cL_law, 23, (some .boolean), 6, 2, 1, [], rc_213)
def rm_214 : ri_MT := (yX0_readOpened, cX0_readOpened, 3, none, 0, 1, 2, [352, 37, 351, 17], rc_214)
def rm_215 : ri_MT := (yL_cell, cL_cell, 2, (some .int), 6, 0, 2, [634, 34, 633], rc_215)
def rm_216 : ri_MT := (yL_some, cL_some, 3, (some .int), 6, 0, 3, [631, 34, 630], rc_216)
def ri_mtl : List (List ri_MT) := [[rm_0, rm_1, rm_2, rm_3, rm_4, rm_5, rm_6, rm_7, rm_8, rm_9, rm_10, rm_11, rm_12, rm_13, rm_14, rm_15],
  [rm_16, rm_17, rm_18, rm_19, rm_20, rm_21, rm_22, rm_23, rm_24, rm_25, rm_26, rm_27, rm_28, rm_29, rm_30, rm_31],
  [rm_32, rm_33, rm_34, rm_35, rm_36, rm_37, rm_38, rm_39, rm_40, rm_41, rm_42, rm_43, rm_44, rm_45, rm_46, rm_47],
  [rm_48, rm_49, rm_50, rm_51, rm_52, rm_53, rm_54, rm_55, rm_56, rm_57, rm_58, rm_59, rm_60, rm_61, rm_62, rm_63],
  [rm_64, rm_65, rm_66, rm_67, rm_68, rm_69, rm_70, rm_71, rm_72, rm_73, rm_74, rm_75, rm_76, rm_77, rm_78, rm_79],
  [rm_80, rm_81, rm_82, rm_83, rm_84, rm_85, rm_86, rm_87, rm_88, rm_89, rm_90, rm_91, rm_92, rm_93, rm_94, rm_95],
  [rm_96, rm_97, rm_98, rm_99, rm_100, rm_101, rm_102, rm_103, rm_104, rm_105, rm_106, rm_107, rm_108, rm_109, rm_110, rm_111],
  [rm_112, rm_113, rm_114, rm_115, rm_116, rm_117, rm_118, rm_119, rm_120, rm_121, rm_122, rm_123, rm_124, rm_125, rm_126, rm_127],
  [rm_128, rm_129, rm_130, rm_131, rm_132, rm_133, rm_134, rm_135, rm_136, rm_137, rm_138, rm_139, rm_140, rm_141, rm_142, rm_143],
  [rm_144, rm_145, rm_146, rm_147, rm_148, rm_149, rm_150, rm_151, rm_152, rm_153, rm_154, rm_155, rm_156, rm_157, rm_158, rm_159],
  [rm_160, rm_161, rm_162, rm_163, rm_164, rm_165, rm_166, rm_167, rm_168, rm_169, rm_170, rm_171, rm_172, rm_173, rm_174, rm_175],
  [rm_176, rm_177, rm_178, rm_179, rm_180, rm_181, rm_182, rm_183, rm_184, rm_185, rm_186, rm_187, rm_188, rm_189, rm_190, rm_191],
  [rm_192, rm_193, rm_194, rm_195, rm_196, rm_197, rm_198, rm_199, rm_200, rm_201, rm_202, rm_203, rm_204, rm_205, rm_206, rm_207],
  [rm_208, rm_209, rm_210, rm_211, rm_212, rm_213, rm_214, rm_215, rm_216]]
def ri_fl_0 : List (Nat × Nat × Nat × Nat) := [(31, 0, 6, 91), (37, 0, 8, 93), (24, 0, 4, 88), (9, 0, 0, 84), (28, 0, 5, 90), (34, 0, 7, 92), (63, 2, 3, 63), (15, 0, 1, 85), (18, 0, 2, 86), (21, 0, 3, 87)]
def ri_fl_1 : List (Nat × Nat × Nat × Nat) := [(15, 1, 1, 175), (9, 1, 0, 173), (19, 1, 2, 176)]
def ri_fl_2 : List (Nat × Nat × Nat × Nat) := [(18, 2, 2, 61), (15, 2, 1, 60), (25, 2, 4, 65), (9, 2, 0, 59), (21, 2, 3, 62)]
def ri_fl_3 : List (Nat × Nat × Nat × Nat) := [(15, 3, 1, 121), (24, 3, 4, 127), (36, 3, 9, 135), (21, 3, 3, 125), (27, 3, 5, 129), (30, 3, 6, 131), (33, 3, 7, 133), (18, 3, 2, 123), (40, 3, 10, 137), (43, 3, 11, 139), (9, 3, 0, 119), (46, 3, 8, 134)]
def ri_fl_4 : List (Nat × Nat × Nat × Nat) := [(28, 4, 2, 359), (32, 4, 3, 360), (158, 3, 4, 128), (44, 4, 6, 363), (10, 4, 0, 357), (111, 3, 10, 138), (48, 4, 7, 364), (51, 4, 8, 365), (148, 3, 1, 122), (212, 3, 9, 136), (40, 4, 5, 362), (55, 4, 9, 366), (252, 3, 0, 120), (21, 4, 1, 358), (138, 3, 11, 140), (35, 4, 4, 361), (58, 4, 10, 367), (135, 2, 3, 64), (128, 3, 2, 124), (249, 3, 3, 126), (255, 3, 5, 130), (234, 1, 0, 174), (198, 1, 2, 177), (224, 0, 4, 89), (258, 3, 6, 132)]
def ri_fl_5 : List (Nat × Nat × Nat × Nat) := []
def ri_fl_6 : List (Nat × Nat × Nat × Nat) := []
def ri_fl_7 : List (Nat × Nat × Nat × Nat) := [(9, 100, 1, 636), (15, 100, 0, 637)]
def ri_fl_8 : List (Nat × Nat × Nat × Nat) := []
def ri_fl_9 : List (Nat × Nat × Nat × Nat) := []
def ri_fl : List (List (Nat × Nat × Nat × Nat)) := [ri_fl_0, ri_fl_1, ri_fl_2, ri_fl_3, ri_fl_4, ri_fl_5, ri_fl_6, ri_fl_7, ri_fl_8, ri_fl_9]
def ri_ml_0 : List (Nat × Nat × Nat × Nat) := [(100, 1, 7, 275), (66, 2, 98, 1), (148, 1, 28, 333), (136, 1, 12, 313), (139, 1, 13, 309), (41, 2, 99, 0), (53, 1, 14, 305), (89, 0, 10, 260), (92, 0, 11, 263), (151, 1, 18, 329), (160, 1, 21, 345), (126, 1, 206, 279), (85, 1, 3, 296), (142, 1, 15, 317), (57, 1, 16, 321), (145, 1, 17, 325), (154, 1, 19, 337), (157, 1, 20, 341), (45, 1, 2, 246), (70, 0, 9, 253), (74, 1, 4, 256), (78, 1, 5, 266), (95, 1, 6, 270), (132, 1, 207, 280), (82, 1, 8, 292), (48, 1, 27, 300), (163, 1, 214, 349), (60, 1, 29, 353)]
def ri_ml_1 : List (Nat × Nat × Nat × Nat) := [(22, 2, 100, 10), (26, 2, 99, 11)]
def ri_ml_2 : List (Nat × Nat × Nat × Nat) := [(32, 2, 98, 5), (28, 2, 99, 2), (36, 0, 32, 451), (40, 2, 96, 6)]
def ri_ml_3 : List (Nat × Nat × Nat × Nat) := [(58, 2, 98, 4), (54, 2, 99, 3), (50, 2, 101, 9), (81, 1, 45, 442), (85, 1, 30, 446), (91, 3, 0, 467), (78, 1, 44, 438), (94, 2, 96, 7), (66, 1, 40, 484), (72, 4, 0, 486), (62, 2, 97, 8), (69, 1, 41, 485), (98, 1, 42, 499)]
def ri_ml_4 : List (Nat × Nat × Nat × Nat) := [(92, 0, 95, 408), (99, 0, 98, 414), (115, 1, 34, 429), (103, 0, 99, 415), (154, 1, 33, 507), (141, 1, 39, 480), (205, 1, 90, 591), (145, 1, 37, 487), (161, 0, 97, 514), (201, 1, 92, 583), (85, 1, 77, 400), (89, 1, 78, 404), (119, 1, 40, 433), (166, 1, 80, 524), (174, 0, 100, 546), (264, 1, 83, 553), (131, 1, 42, 570), (190, 1, 94, 575), (65, 1, 206, 187), (71, 1, 207, 197), (75, 1, 0, 235), (79, 1, 1, 242), (82, 1, 76, 396), (96, 0, 79, 411), (107, 1, 35, 420), (285, 4, 0, 457), (290, 3, 0, 460), (122, 1, 41, 463), (125, 1, 36, 469), (151, 1, 43, 495), (261, 1, 81, 528), (170, 0, 84, 536), (271, 0, 85, 539), (178, 1, 82, 549), (267, 0, 101, 557), (184, 1, 88, 562), (187, 1, 87, 566), (194, 1, 22, 579), (282, 1, 93, 587), (208, 1, 91, 595), (279, 1, 31, 599), (215, 1, 24, 607), (218, 1, 25, 612)]
def ri_ml_5 : List (Nat × Nat × Nat × Nat) := []
def ri_ml_6 : List (Nat × Nat × Nat × Nat) := [(16, 0, 216, 629), (27, 1, 49, 425), (76, 1, 64, 571), (31, 1, 56, 503), (55, 1, 63, 558), (58, 1, 55, 491), (38, 1, 59, 532), (20, 1, 47, 392), (24, 1, 48, 416), (52, 1, 54, 476), (45, 1, 57, 515), (34, 1, 58, 519), (42, 1, 60, 542), (73, 1, 65, 603), (48, 1, 68, 617), (66, 1, 69, 621), (69, 1, 70, 625), (7, 0, 215, 632), (61, 4, 0, 635)]
def ri_ml_7 : List (Nat × Nat × Nat × Nat) := [(335, 1, 208, 191), (492, 1, 209, 201), (495, 0, 211, 205), (1059, 0, 212, 213)]
def ri_ml_8 : List (Nat × Nat × Nat × Nat) := [(9, 0, 210, 208)]
def ri_ml_9 : List (Nat × Nat × Nat × Nat) := []
def ri_ml : List (List (Nat × Nat × Nat × Nat)) := [ri_ml_0, ri_ml_1, ri_ml_2, ri_ml_3, ri_ml_4, ri_ml_5, ri_ml_6, ri_ml_7, ri_ml_8, ri_ml_9]
def ri_cl_0 : List (Nat × Value × Nat) := [(98, .ref 1001, 1), (104, .ref 1002, 2), (106, .ref 1003, 3), (108, .ref 1004, 4), (110, .ref 1005, 5), (112, .ref 1006, 6), (114, .ref 1007, 7), (116, .ref 1008, 8), (118, .ref 1009, 9), (120, .ref 1010, 10), (122, .ref 1011, 11), (124, .ref 1012, 12)]
def ri_cl_1 : List (Nat × Value × Nat) := []
def ri_cl_2 : List (Nat × Value × Nat) := []
def ri_cl_3 : List (Nat × Value × Nat) := []
def ri_cl_4 : List (Nat × Value × Nat) := [(164, .long (-4611686018427387904), 523), (63, .ref 1000, 0)]
def ri_cl_5 : List (Nat × Value × Nat) := []
def ri_cl_6 : List (Nat × Value × Nat) := []
def ri_cl_7 : List (Nat × Value × Nat) := []
def ri_cl_8 : List (Nat × Value × Nat) := []
def ri_cl_9 : List (Nat × Value × Nat) := []
def ri_cl : List (List (Nat × Value × Nat)) := [ri_cl_0, ri_cl_1, ri_cl_2, ri_cl_3, ri_cl_4, ri_cl_5, ri_cl_6, ri_cl_7, ri_cl_8, ri_cl_9]
def ri_sl_0 : List (Nat × Nat × Nat) := []
def ri_sl_1 : List (Nat × Nat × Nat) := []
def ri_sl_2 : List (Nat × Nat × Nat) := []
def ri_sl_3 : List (Nat × Nat × Nat) := []
def ri_sl_4 : List (Nat × Nat × Nat) := []
def ri_sl_5 : List (Nat × Nat × Nat) := []
def ri_sl_6 : List (Nat × Nat × Nat) := []
def ri_sl_7 : List (Nat × Nat × Nat) := [(38, 1, 195), (1053, 2, 211)]
def ri_sl_8 : List (Nat × Nat × Nat) := []
def ri_sl_9 : List (Nat × Nat × Nat) := []
def ri_sl : List (List (Nat × Nat × Nat)) := [ri_sl_0, ri_sl_1, ri_sl_2, ri_sl_3, ri_sl_4, ri_sl_5, ri_sl_6, ri_sl_7, ri_sl_8, ri_sl_9]
def ri_own : List String := [RX0, RX1, RX2, RX3, RX4, RX5, RL, RJ0, RJ1, RJ3]
def ri_nest : List Cond := [.methodLinkNest RX0 41 yX4_putItem "RoadsNotGoneBy", .methodLinkNest RX0 66 yX4_item "RoadsNotGoneBy", .methodLinkNest RX2 28 yX4_putItem "RoadsNotGoneBy", .methodLinkNest RX3 54 yX4_putItem "RoadsNotGoneBy", .methodLinkNest RX3 58 yX4_item "RoadsNotGoneBy", .methodLinkNest RX2 32 yX4_item "RoadsNotGoneBy", .methodLinkNest RX2 40 yX4_held "RoadsNotGoneBy", .methodLinkNest RX3 94 yX4_held "RoadsNotGoneBy", .methodLinkNest RX3 62 yX4_bit "RoadsNotGoneBy", .methodLinkNest RX3 50 yX4_copyRow "RoadsNotGoneBy", .methodLinkNest RX1 22 yX4_fill "RoadsNotGoneBy", .methodLinkNest RX1 26 yX4_putItem "RoadsNotGoneBy"]
def ri_nestp : List Nat := [239, 250, 304, 424, 437, 450, 454, 468, 473, 511, 611, 616]
def ri_strs : List (String × Nat × String) := [("RoadsNotGoneBy", 63, "takes crossing + year ; puts 2 ; feels 5 ;"), ("RoadsNotGoneBy$Reader", 98, "takes"), ("RoadsNotGoneBy$Reader", 104, "puts"), ("RoadsNotGoneBy$Reader", 106, "feels"), ("RoadsNotGoneBy$Reader", 108, "or"), ("RoadsNotGoneBy$Reader", 110, "and"), ("RoadsNotGoneBy$Reader", 112, "not"), ("RoadsNotGoneBy$Reader", 114, "crossing"), ("RoadsNotGoneBy$Reader", 116, "jar"), ("RoadsNotGoneBy$Reader", 118, "number"), ("RoadsNotGoneBy$Reader", 120, "year"), ("RoadsNotGoneBy$Reader", 122, "mood"), ("RoadsNotGoneBy$Reader", 124, "eaten")]
def ri_strl : List Nat := [42, 5, 4, 5, 2, 3, 3, 8, 3, 6, 4, 4, 5]
def ri_strb : List (List Int32) := [[116, 97, 107, 101, 115, 32, 99, 114, 111, 115, 115, 105, 110, 103, 32, 43, 32, 121, 101, 97, 114, 32, 59, 32, 112, 117, 116, 115, 32, 50, 32, 59, 32, 102, 101, 101, 108, 115, 32, 53, 32, 59], [116, 97, 107, 101, 115], [112, 117, 116, 115], [102, 101, 101, 108, 115], [111, 114], [97, 110, 100], [110, 111, 116], [99, 114, 111, 115, 115, 105, 110, 103], [106, 97, 114], [110, 117, 109, 98, 101, 114], [121, 101, 97, 114], [109, 111, 111, 100], [101, 97, 116, 101, 110]]
abbrev ri_LK : Type := (Nat × List (Nat × Nat)) ⊕ ((FieldType × Nat) ⊕ (String × List Nat))
def ri_lyl : List (List ri_LK) := [[.inl (4, [(3, 1), (3, 5), (3, 10), (3, 19), (3, 28), (3, 37), (3, 46), (3, 47), (3, 48), (3, 49), (1, 0)]), .inl (2, [(3, 2), (3, 3), (3, 4), (0, 0), (0, 0)]), .inr (.inl (.int, 960)), .inr (.inl (.int, 24)), .inr (.inl (.int, 160)), .inl (0, [(3, 6), (3, 7), (3, 8), (3, 9), (0, 0), (0, 0), (0, 0), (0, 0), (3, 1)]), .inr (.inl (.int, 160)), .inr (.inl (.int, 161)), .inr (.inl (.int, 161)), .inr (.inl (.int, 161)), .inl (3, [(3, 11), (3, 12), (3, 13), (3, 14), (3, 15), (3, 16), (3, 17), (3, 18), (3, 1), (0, 0), (0, 0), (0, 0)]), .inr (.inl (.int, 24)), .inr (.inl (.int, 24)), .inr (.inl (.int, 5)), .inr (.inl (.int, 5)), .inr (.inl (.int, 5))],
  [.inr (.inl (.int, 5)), .inr (.inl (.int, 5)), .inr (.inl (.int, 6)), .inl (3, [(3, 20), (3, 21), (3, 22), (3, 23), (3, 24), (3, 25), (3, 26), (3, 27), (3, 1), (0, 0), (0, 0), (0, 0)]), .inr (.inl (.int, 24)), .inr (.inl (.int, 24)), .inr (.inl (.int, 5)), .inr (.inl (.int, 5)), .inr (.inl (.int, 5)), .inr (.inl (.int, 5)), .inr (.inl (.int, 5)), .inr (.inl (.int, 6)), .inl (3, [(3, 29), (3, 30), (3, 31), (3, 32), (3, 33), (3, 34), (3, 35), (3, 36), (3, 1), (0, 0), (0, 0), (0, 0)]), .inr (.inl (.int, 24)), .inr (.inl (.int, 24)), .inr (.inl (.int, 5))],
  [.inr (.inl (.int, 5)), .inr (.inl (.int, 5)), .inr (.inl (.int, 5)), .inr (.inl (.int, 5)), .inr (.inl (.int, 6)), .inr (.inr ("RoadsNotGoneBy$Sheet", [38, 40, 42, 44])), .inl (1, [(3, 39), (0, 0), (0, 0)]), .inr (.inl (.int, 40)), .inl (1, [(3, 41), (0, 0), (0, 0)]), .inr (.inl (.int, 40)), .inl (1, [(3, 43), (0, 0), (0, 0)]), .inr (.inl (.int, 40)), .inl (1, [(3, 45), (0, 0), (0, 0)]), .inr (.inl (.int, 40)), .inr (.inl (.long, 12)), .inr (.inl (.long, 12))],
  [.inr (.inl (.int, 12)), .inr (.inl (.int, 12)), .inr (.inl (.int, 2))]]
abbrev ri_K : Nat := 51
abbrev ri_cls : List vw_C := [(RX0, TX0, 9), (RX1, TX1, 3), (RX2, TX2, 5), (RX3, TX3, 12), (RX4, TX4, 11)]
abbrev lw_imax_s : Nat := 461
abbrev lw_imin_s : Nat := 458
abbrev lw_imath : Nat := 44
abbrev lw_imax_c : Nat := 462
abbrev lw_imin_c : Nat := 459
def ri_layp : List (List Nat) := [[94, 96, 98, 100, 102, 104, 106, 108, 110], [178, 180, 182], [66, 68, 70, 72, 74], [141, 143, 145, 147, 149, 151, 153, 155, 157, 159, 161, 163], [368, 370, 372, 374, 376, 378, 380, 382, 384, 386, 388]]
def ri_ty (c : Nat) : Nat → FieldType := match c with
  | 0 => tyX0
  | 1 => tyX1
  | 2 => tyX2
  | 3 => tyX3
  | 4 => tyX4
  | _ => fun _ => .int

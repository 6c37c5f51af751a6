def KX2_pass_0 : List RI := [(.aload_n 1, 1, 0, 1, []), (.getfield 212, 3, 0, 60, []), (.tableswitch 233 2 14 #[199, 68, 169, 233, 199, 161, 132, 207, 233, 71, 110, 125, 199], 68, 0, 237, [(2, 203), (3, 72), (4, 173), (5, 237), (6, 203), (7, 165), (8, 136), (9, 211), (10, 237), (11, 75), (12, 114), (13, 129), (14, 203)])]
def KX2_pass_72 : List RI := [(.goto 171, 3, 0, 243, [])]
def KX2_pass_75 : List RI := [(.aload_n 1, 1, 0, 1, []), (.getfield 213, 3, 0, 61, []), (.bipush 21, 2, 0, 0, []), (.if_icmp .ne 18, 3, 0, 99, [])]
def KX2_pass_84 : List RI := [(.aload_n 0, 1, 0, 0, []), (.aload_n 0, 1, 0, 0, []), (.getfield 188, 3, 0, 92, []), (.aload_n 0, 1, 0, 0, []), (.getfield 191, 3, 0, 91, []), (.invokevirtual 216, 3, 2, 41, [(0, 0), (0, 0), (0, 0)]), (.goto 147, 3, 0, 243, [])]
def KX2_pass_99 : List RI := [(.aload_n 0, 1, 0, 0, []), (.aload_n 0, 1, 0, 0, []), (.getfield 191, 3, 0, 91, []), (.aload_n 0, 1, 0, 0, []), (.getfield 188, 3, 0, 92, []), (.invokevirtual 216, 3, 2, 41, [(0, 0), (0, 0), (0, 0)]), (.goto 132, 3, 0, 243, [])]
def KX2_pass_114 : List RI := [(.aload_n 0, 1, 0, 0, []), (.aload_n 0, 1, 0, 0, []), (.getfield 188, 3, 0, 92, []), (.aload_n 0, 1, 0, 0, []), (.getfield 191, 3, 0, 91, []), (.invokevirtual 216, 3, 2, 41, [(0, 0), (0, 0), (0, 0)]), (.goto 117, 3, 0, 243, [])]
def KX2_pass_129 : List RI := [(.aload_n 0, 1, 0, 0, []), (.invokevirtual 220, 3, 0, 42, [(0, 0), (0, 0), (0, 0)]), (.goto 110, 3, 0, 243, [])]
def KX2_pass_136 : List RI := [(.aload_n 0, 1, 0, 0, []), (.dup, 1, 0, 0, []), (.getfield 188, 3, 0, 92, []), (.aload_n 0, 1, 0, 0, []), (.invokevirtual 223, 3, 0, 47, [(0, 0), (0, 0), (0, 0)]), (.land, 1, 0, 0, []), (.putfield 188, 3, 0, 92, []), (.aload_n 0, 1, 0, 0, []), (.dup, 1, 0, 0, []), (.getfield 191, 3, 0, 91, []), (.aload_n 0, 1, 0, 0, []), (.invokevirtual 223, 3, 0, 47, [(0, 0), (0, 0), (0, 0)]), (.land, 1, 0, 0, []), (.putfield 191, 3, 0, 91, []), (.goto 81, 3, 0, 243, [])]
def KX2_pass_165 : List RI := [(.aload_n 0, 1, 0, 0, []), (.aload_n 1, 1, 0, 1, []), (.invokevirtual 227, 3, 1, 43, [(0, 0), (0, 0), (0, 0)]), (.goto 73, 3, 0, 243, [])]
def KX2_pass_173 : List RI := [(.aload_n 1, 1, 0, 1, []), (.getfield 213, 3, 0, 61, []), (.bipush 39, 2, 0, 0, []), (.if_icmp .ne 64, 3, 0, 243, [])]
def KX2_pass_182 : List RI := [(.aload_n 0, 1, 0, 0, []), (.getfield 191, 3, 0, 91, []), (.lstore_n 2, 1, 0, 2, []), (.aload_n 0, 1, 0, 0, []), (.aload_n 0, 1, 0, 0, []), (.getfield 188, 3, 0, 92, []), (.putfield 191, 3, 0, 91, []), (.aload_n 0, 1, 0, 0, []), (.lload_n 2, 1, 0, 2, []), (.putfield 188, 3, 0, 92, []), (.goto 43, 3, 0, 243, [])]
def KX2_pass_203 : List RI := [(.aload_n 0, 1, 0, 0, []), (.aload_n 1, 1, 0, 1, []), (.invokevirtual 230, 3, 1, 44, [(0, 0), (0, 0), (0, 0)]), (.goto 35, 3, 0, 243, [])]
def KX2_pass_211 : List RI := [(.aload_n 0, 1, 0, 0, []), (.aload_n 1, 1, 0, 1, []), (.aload_n 1, 1, 0, 1, []), (.getfield 233, 3, 0, 67, []), (.ifCond .lt 13, 3, 0, 230, [])]
def KX2_pass_220 : List RI := [(.aload_n 1, 1, 0, 1, []), (.getfield 233, 3, 0, 67, []), (.invokestatic 127, 3, 1, 222, []), (.goto 4, 3, 0, 231, [])]
def KX2_pass_230 : List RI := [(.lconst 0, 1, 0, 0, [])]
def KX2_pass_231 : List RI := [(.invokevirtual 234, 3, 2, 45, [(0, 0), (0, 0), (0, 0)]), (.goto 9, 3, 0, 243, [])]
def KX2_pass_237 : List RI := [(.aload_n 0, 1, 0, 0, []), (.aload_n 1, 1, 0, 1, []), (.lconst 0, 1, 0, 0, []), (.invokevirtual 234, 3, 2, 45, [(0, 0), (0, 0), (0, 0)])]
def KX2_pass_243 : List RI := [(.return_, 1, 0, 0, [])]
def KX2_pass : RB := [(0, KX2_pass_0), (72, KX2_pass_72), (75, KX2_pass_75), (84, KX2_pass_84), (99, KX2_pass_99), (114, KX2_pass_114), (129, KX2_pass_129), (136, KX2_pass_136), (165, KX2_pass_165), (173, KX2_pass_173), (182, KX2_pass_182), (203, KX2_pass_203), (211, KX2_pass_211), (220, KX2_pass_220), (230, KX2_pass_230), (231, KX2_pass_231), (237, KX2_pass_237), (243, KX2_pass_243)]
def rX2_pass : CmC := (yX2_pass, cX2_pass, 4, none, 1, 3, false)
theorem hX2_pass : mtC[40]? = some rX2_pass := rfl
set_option maxRecDepth 100000 in
theorem swX2_pass_4 : decode cX2_pass 4 = .ok (.tableswitch 233 2 14 #[199, 68, 169, 233, 199, 161, 132, 207, 233, 71, 110, 125, 199], 68) := by decide +kernel
set_option maxRecDepth 100000 in
theorem okX2_pass : cokMC rX2_pass KX2_pass = true := cokMC_of [(4, .tableswitch 233 2 14 #[199, 68, 169, 233, 199, 161, 132, 207, 233, 71, 110, 125, 199], 68)] (fun q hq => by
  obtain rfl := List.mem_singleton.mp hq
  exact swX2_pass_4) (by decide +kernel) (by decide +kernel)
def KX2_fork_0 : List RI := [(.aload_n 0, 1, 0, 0, []), (.lload_n 1, 1, 0, 1, []), (.invokevirtual 238, 3, 1, 46, [(0, 0), (0, 0), (0, 0)]), (.aload_n 0, 1, 0, 0, []), (.lload_n 3, 1, 0, 3, []), (.putfield 191, 3, 0, 91, []), (.aload_n 0, 1, 0, 0, []), (.lload_n 3, 1, 0, 3, []), (.putfield 188, 3, 0, 92, []), (.return_, 1, 0, 0, [])]
def KX2_fork : RB := [(0, KX2_fork_0)]
def rX2_fork : CmC := (yX2_fork, cX2_fork, 5, none, 2, 3, false)
theorem hX2_fork : mtC[41]? = some rX2_fork := rfl
set_option maxRecDepth 100000 in
theorem okX2_fork : cokMC rX2_fork KX2_fork = true := cokMC_of [] (fun _ h => absurd h List.not_mem_nil) (by decide +kernel) (by decide +kernel)
def KX2_passElse_0 : List RI := [(.aload_n 0, 1, 0, 0, []), (.invokevirtual 223, 3, 0, 47, [(0, 0), (0, 0), (0, 0)]), (.lstore_n 1, 1, 0, 1, []), (.aload_n 0, 1, 0, 0, []), (.aload_n 0, 1, 0, 0, []), (.getfield 191, 3, 0, 91, []), (.invokevirtual 238, 3, 1, 46, [(0, 0), (0, 0), (0, 0)]), (.aload_n 0, 1, 0, 0, []), (.aload_n 0, 1, 0, 0, []), (.getfield 188, 3, 0, 92, []), (.invokevirtual 238, 3, 1, 46, [(0, 0), (0, 0), (0, 0)]), (.aload_n 0, 1, 0, 0, []), (.lload_n 1, 1, 0, 1, []), (.putfield 191, 3, 0, 91, []), (.aload_n 0, 1, 0, 0, []), (.lload_n 1, 1, 0, 1, []), (.putfield 188, 3, 0, 92, []), (.return_, 1, 0, 0, [])]
def KX2_passElse : RB := [(0, KX2_passElse_0)]
def rX2_passElse : CmC := (yX2_passElse, cX2_passElse, 3, none, 0, 3, false)
theorem hX2_passElse : mtC[42]? = some rX2_passElse := rfl
set_option maxRecDepth 100000 in
theorem okX2_passElse : cokMC rX2_passElse KX2_passElse = true := cokMC_of [] (fun _ h => absurd h List.not_mem_nil) (by decide +kernel) (by decide +kernel)
def KX2_passChain_0 : List RI := [(.aload_n 1, 1, 0, 1, []), (.getfield 213, 3, 0, 61, []), (.bipush 21, 2, 0, 0, []), (.if_icmp .ne 19, 3, 0, 25, [])]
def KX2_passChain_9 : List RI := [(.aload_n 0, 1, 0, 0, []), (.dup, 1, 0, 0, []), (.getfield 188, 3, 0, 92, []), (.aload_n 0, 1, 0, 0, []), (.invokevirtual 223, 3, 0, 47, [(0, 0), (0, 0), (0, 0)]), (.land, 1, 0, 0, []), (.putfield 188, 3, 0, 92, []), (.goto 34, 3, 0, 56, [])]
def KX2_passChain_25 : List RI := [(.aload_n 1, 1, 0, 1, []), (.getfield 213, 3, 0, 61, []), (.bipush 20, 2, 0, 0, []), (.if_icmp .ne 19, 3, 0, 50, [])]
def KX2_passChain_34 : List RI := [(.aload_n 0, 1, 0, 0, []), (.dup, 1, 0, 0, []), (.getfield 191, 3, 0, 91, []), (.aload_n 0, 1, 0, 0, []), (.invokevirtual 223, 3, 0, 47, [(0, 0), (0, 0), (0, 0)]), (.land, 1, 0, 0, []), (.putfield 191, 3, 0, 91, []), (.goto 9, 3, 0, 56, [])]
def KX2_passChain_50 : List RI := [(.aload_n 0, 1, 0, 0, []), (.aload_n 1, 1, 0, 1, []), (.lconst 0, 1, 0, 0, []), (.invokevirtual 234, 3, 2, 45, [(0, 0), (0, 0), (0, 0)])]
def KX2_passChain_56 : List RI := [(.return_, 1, 0, 0, [])]
def KX2_passChain : RB := [(0, KX2_passChain_0), (9, KX2_passChain_9), (25, KX2_passChain_25), (34, KX2_passChain_34), (50, KX2_passChain_50), (56, KX2_passChain_56)]
def rX2_passChain : CmC := (yX2_passChain, cX2_passChain, 2, none, 1, 3, false)
theorem hX2_passChain : mtC[43]? = some rX2_passChain := rfl
set_option maxRecDepth 100000 in
theorem okX2_passChain : cokMC rX2_passChain KX2_passChain = true := cokMC_of [] (fun _ h => absurd h List.not_mem_nil) (by decide +kernel) (by decide +kernel)
def KX2_takeValue_0 : List RI := [(.aload_n 1, 1, 0, 1, []), (.getfield 242, 3, 0, 70, []), (.ifCond .ne 42, 3, 0, 46, [])]
def KX2_takeValue_7 : List RI := [(.aload_n 1, 1, 0, 1, []), (.getfield 233, 3, 0, 67, []), (.ifCond .lt 35, 3, 0, 46, [])]
def KX2_takeValue_14 : List RI := [(.aload_n 0, 1, 0, 0, []), (.getfield 191, 3, 0, 91, []), (.aload_n 0, 1, 0, 0, []), (.getfield 188, 3, 0, 92, []), (.land, 1, 0, 0, []), (.aload_n 1, 1, 0, 1, []), (.getfield 233, 3, 0, 67, []), (.invokestatic 245, 3, 2, 221, []), (.ifCond .ne 16, 3, 0, 46, [])]
def KX2_takeValue_33 : List RI := [(.aload_n 0, 1, 0, 0, []), (.getfield 15, 3, 0, 90, []), (.bipush 15, 2, 0, 0, []), (.aload_n 1, 1, 0, 1, []), (.getfield 249, 3, 0, 66, []), (.invokevirtual 52, 3, 2, 118, [(0, 0), (0, 0), (0, 0), (0, 0), (0, 0), (0, 0), (0, 0)])]
def KX2_takeValue_46 : List RI := [(.aload_n 0, 1, 0, 0, []), (.aload_n 1, 1, 0, 1, []), (.lconst 0, 1, 0, 0, []), (.invokevirtual 234, 3, 2, 45, [(0, 0), (0, 0), (0, 0)]), (.return_, 1, 0, 0, [])]
def KX2_takeValue : RB := [(0, KX2_takeValue_0), (7, KX2_takeValue_7), (14, KX2_takeValue_14), (33, KX2_takeValue_33), (46, KX2_takeValue_46)]
def rX2_takeValue : CmC := (yX2_takeValue, cX2_takeValue, 2, none, 1, 3, false)
theorem hX2_takeValue : mtC[44]? = some rX2_takeValue := rfl
set_option maxRecDepth 100000 in
theorem okX2_takeValue : cokMC rX2_takeValue KX2_takeValue = true := cokMC_of [] (fun _ h => absurd h List.not_mem_nil) (by decide +kernel) (by decide +kernel)
def KX2_join_0 : List RI := [(.aload_n 0, 1, 0, 0, []), (.getfield 191, 3, 0, 91, []), (.aload_n 0, 1, 0, 0, []), (.getfield 188, 3, 0, 92, []), (.land, 1, 0, 0, []), (.lload_n 2, 1, 0, 2, []), (.lor, 1, 0, 0, []), (.lstore 4, 2, 0, 0, []), (.aload_n 1, 1, 0, 1, []), (.getfield 242, 3, 0, 70, []), (.ifCond .eq 14, 3, 0, 31, [])]
def KX2_join_20 : List RI := [(.aload_n 1, 1, 0, 1, []), (.getfield 250, 3, 0, 68, []), (.ifCond .ne 7, 3, 0, 31, [])]
def KX2_join_27 : List RI := [(.iconst 1, 1, 0, 0, []), (.goto 4, 3, 0, 32, [])]
def KX2_join_31 : List RI := [(.iconst 0, 1, 0, 0, [])]
def KX2_join_32 : List RI := [(.istore 6, 2, 0, 0, []), (.aload_n 0, 1, 0, 0, []), (.iload 6, 2, 0, 0, []), (.ifCond .eq 18, 3, 0, 55, [])]
def KX2_join_40 : List RI := [(.aload_n 1, 1, 0, 1, []), (.getfield 251, 3, 0, 71, []), (.lconst 0, 1, 0, 0, []), (.lcmp, 1, 0, 0, []), (.ifCond .ne 9, 3, 0, 55, [])]
def KX2_join_49 : List RI := [(.ldc2_w 158, 3, (-1), 0, []), (.goto 5, 3, 0, 57, [])]
def KX2_join_55 : List RI := [(.lload 4, 2, 0, 0, [])]
def KX2_join_57 : List RI := [(.putfield 191, 3, 0, 91, []), (.aload_n 0, 1, 0, 0, []), (.iload 6, 2, 0, 0, []), (.ifCond .eq 18, 3, 0, 81, [])]
def KX2_join_66 : List RI := [(.aload_n 1, 1, 0, 1, []), (.getfield 251, 3, 0, 71, []), (.lconst 1, 1, 0, 0, []), (.lcmp, 1, 0, 0, []), (.ifCond .ne 9, 3, 0, 81, [])]
def KX2_join_75 : List RI := [(.ldc2_w 158, 3, (-1), 0, []), (.goto 5, 3, 0, 83, [])]
def KX2_join_81 : List RI := [(.lload 4, 2, 0, 0, [])]
def KX2_join_83 : List RI := [(.putfield 188, 3, 0, 92, []), (.return_, 1, 0, 0, [])]
def KX2_join : RB := [(0, KX2_join_0), (20, KX2_join_20), (27, KX2_join_27), (31, KX2_join_31), (32, KX2_join_32), (40, KX2_join_40), (49, KX2_join_49), (55, KX2_join_55), (57, KX2_join_57), (66, KX2_join_66), (75, KX2_join_75), (81, KX2_join_81), (83, KX2_join_83)]
def rX2_join : CmC := (yX2_join, cX2_join, 7, none, 2, 3, false)
theorem hX2_join : mtC[45]? = some rX2_join := rfl
set_option maxRecDepth 100000 in
theorem okX2_join : cokMC rX2_join KX2_join = true := cokMC_of [] (fun _ h => absurd h List.not_mem_nil) (by decide +kernel) (by decide +kernel)
def KX2_toAside_0 : List RI := [(.aload_n 0, 1, 0, 0, []), (.getfield 194, 3, 0, 94, []), (.aload_n 0, 1, 0, 0, []), (.getfield 9, 3, 0, 93, []), (.arraylength, 1, 0, 0, []), (.if_icmp .ge 23, 3, 0, 32, [])]
def KX2_toAside_12 : List RI := [(.aload_n 0, 1, 0, 0, []), (.getfield 9, 3, 0, 93, []), (.aload_n 0, 1, 0, 0, []), (.getfield 194, 3, 0, 94, []), (.lload_n 1, 1, 0, 1, []), (.lastore, 1, 0, 0, []), (.aload_n 0, 1, 0, 0, []), (.dup, 1, 0, 0, []), (.getfield 194, 3, 0, 94, []), (.iconst 1, 1, 0, 0, []), (.iadd, 1, 0, 0, []), (.putfield 194, 3, 0, 94, [])]
def KX2_toAside_32 : List RI := [(.return_, 1, 0, 0, [])]
def KX2_toAside : RB := [(0, KX2_toAside_0), (12, KX2_toAside_12), (32, KX2_toAside_32)]
def rX2_toAside : CmC := (yX2_toAside, cX2_toAside, 3, none, 1, 3, false)
theorem hX2_toAside : mtC[46]? = some rX2_toAside := rfl
set_option maxRecDepth 100000 in
theorem okX2_toAside : cokMC rX2_toAside KX2_toAside = true := cokMC_of [] (fun _ h => absurd h List.not_mem_nil) (by decide +kernel) (by decide +kernel)
def KX2_fromAside_0 : List RI := [(.aload_n 0, 1, 0, 0, []), (.getfield 194, 3, 0, 94, []), (.ifCond .ne 7, 3, 0, 11, [])]
def KX2_fromAside_7 : List RI := [(.ldc2_w 158, 3, (-1), 0, []), (.lreturn, 1, 0, 0, [])]
def KX2_fromAside_11 : List RI := [(.aload_n 0, 1, 0, 0, []), (.dup, 1, 0, 0, []), (.getfield 194, 3, 0, 94, []), (.iconst 1, 1, 0, 0, []), (.isub, 1, 0, 0, []), (.putfield 194, 3, 0, 94, []), (.aload_n 0, 1, 0, 0, []), (.getfield 9, 3, 0, 93, []), (.aload_n 0, 1, 0, 0, []), (.getfield 194, 3, 0, 94, []), (.laload, 1, 0, 0, []), (.lreturn, 1, 0, 0, [])]
def KX2_fromAside : RB := [(0, KX2_fromAside_0), (7, KX2_fromAside_7), (11, KX2_fromAside_11)]
def rX2_fromAside : CmC := (yX2_fromAside, cX2_fromAside, 1, (some .long), 0, 3, false)
theorem hX2_fromAside : mtC[47]? = some rX2_fromAside := rfl
set_option maxRecDepth 100000 in
theorem okX2_fromAside : cokMC rX2_fromAside KX2_fromAside = true := cokMC_of [] (fun _ h => absurd h List.not_mem_nil) (by decide +kernel) (by decide +kernel)
def KX3_init_0 : List RI := [(.aload_n 0, 1, 0, 0, []), (.invokespecial 3, 3, 0, 9999, []), (.aload_n 0, 1, 0, 0, []), (.aload_n 1, 1, 0, 1, []), (.putfield 9, 3, 0, 121, []), (.aload_n 0, 1, 0, 0, []), (.new 15, 3, 0, 3, []), (.dup, 1, 0, 0, []), (.aload_n 1, 1, 0, 1, []), (.invokespecial 17, 3, 1, 19, []), (.putfield 20, 3, 0, 120, []), (.return_, 1, 0, 0, [])]
def KX3_init : RB := [(0, KX3_init_0)]
def rX3_init : CmC := (yX3_init, cX3_init, 2, none, 1, 4, false)
theorem hX3_init : mtC[48]? = some rX3_init := rfl
set_option maxRecDepth 100000 in
theorem okX3_init : cokMC rX3_init KX3_init = true := cokMC_of [] (fun _ h => absurd h List.not_mem_nil) (by decide +kernel) (by decide +kernel)
def KX3_judgeProgram_0 : List RI := [(.aload_n 0, 1, 0, 0, []), (.aload_n 1, 1, 0, 1, []), (.putfield 9, 3, 0, 121, []), (.iconst 0, 1, 0, 0, []), (.istore_n 2, 1, 0, 2, [])]
def KX3_judgeProgram_7 : List RI := [(.iload_n 2, 1, 0, 2, []), (.aload_n 0, 1, 0, 0, []), (.getfield 9, 3, 0, 121, []), (.getfield 24, 3, 0, 211, []), (.invokevirtual 30, 3, 0, 234, []), (.if_icmp .ge 14, 3, 0, 32, [])]
def KX3_judgeProgram_21 : List RI := [(.aload_n 0, 1, 0, 0, []), (.iload_n 2, 1, 0, 2, []), (.invokevirtual 36, 3, 1, 50, [(0, 0), (0, 0), (0, 0), (0, 0)]), (.iinc 2 1, 3, 0, 0, []), (.goto (-22), 3, 0, 7, [])]
def KX3_judgeProgram_32 : List RI := [(.iconst 0, 1, 0, 0, []), (.istore_n 2, 1, 0, 2, [])]
def KX3_judgeProgram_34 : List RI := [(.iload_n 2, 1, 0, 2, []), (.aload_n 0, 1, 0, 0, []), (.getfield 9, 3, 0, 121, []), (.getfield 40, 3, 0, 212, []), (.invokevirtual 30, 3, 0, 234, []), (.if_icmp .ge 54, 3, 0, 99, [])]
def KX3_judgeProgram_48 : List RI := [(.aload_n 0, 1, 0, 0, []), (.getfield 9, 3, 0, 121, []), (.getfield 40, 3, 0, 212, []), (.iload_n 2, 1, 0, 2, []), (.invokevirtual 43, 3, 1, 235, []), (.checkcast 47, 3, 0, 11, []), (.getfield 49, 3, 0, 334, []), (.ifCond .eq 28, 3, 0, 93, [])]
def KX3_judgeProgram_68 : List RI := [(.aload_n 0, 1, 0, 0, []), (.getfield 9, 3, 0, 121, []), (.iconst 2, 1, 0, 0, []), (.aload_n 0, 1, 0, 0, []), (.getfield 9, 3, 0, 121, []), (.getfield 40, 3, 0, 212, []), (.iload_n 2, 1, 0, 2, []), (.invokevirtual 43, 3, 1, 235, []), (.checkcast 47, 3, 0, 11, []), (.getfield 53, 3, 0, 330, []), (.invokevirtual 57, 3, 2, 118, [(0, 0), (0, 0), (0, 0), (0, 0), (0, 0), (0, 0), (0, 0)])]
def KX3_judgeProgram_93 : List RI := [(.iinc 2 1, 3, 0, 0, []), (.goto (-62), 3, 0, 34, [])]
def KX3_judgeProgram_99 : List RI := [(.iconst 0, 1, 0, 0, []), (.istore_n 2, 1, 0, 2, [])]
def KX3_judgeProgram_101 : List RI := [(.iload_n 2, 1, 0, 2, []), (.aload_n 0, 1, 0, 0, []), (.getfield 9, 3, 0, 121, []), (.getfield 61, 3, 0, 213, []), (.invokevirtual 30, 3, 0, 234, []), (.if_icmp .ge 27, 3, 0, 139, [])]
def KX3_judgeProgram_115 : List RI := [(.aload_n 0, 1, 0, 0, []), (.aload_n 0, 1, 0, 0, []), (.getfield 9, 3, 0, 121, []), (.getfield 61, 3, 0, 213, []), (.iload_n 2, 1, 0, 2, []), (.invokevirtual 43, 3, 1, 235, []), (.checkcast 64, 3, 0, 2, []), (.invokevirtual 66, 3, 1, 53, [(0, 0), (0, 0), (0, 0), (0, 0)]), (.iinc 2 1, 3, 0, 0, []), (.goto (-35), 3, 0, 101, [])]
def KX3_judgeProgram_139 : List RI := [(.iconst 0, 1, 0, 0, []), (.istore_n 2, 1, 0, 2, [])]
def KX3_judgeProgram_141 : List RI := [(.iload_n 2, 1, 0, 2, []), (.aload_n 0, 1, 0, 0, []), (.getfield 9, 3, 0, 121, []), (.getfield 70, 3, 0, 214, []), (.invokevirtual 30, 3, 0, 234, []), (.if_icmp .ge 27, 3, 0, 179, [])]
def KX3_judgeProgram_155 : List RI := [(.aload_n 0, 1, 0, 0, []), (.aload_n 0, 1, 0, 0, []), (.getfield 9, 3, 0, 121, []), (.getfield 70, 3, 0, 214, []), (.iload_n 2, 1, 0, 2, []), (.invokevirtual 43, 3, 1, 235, []), (.checkcast 73, 3, 0, 9, []), (.invokevirtual 75, 3, 1, 80, [(0, 0), (0, 0), (0, 0), (0, 0)]), (.iinc 2 1, 3, 0, 0, []), (.goto (-35), 3, 0, 141, [])]
def KX3_judgeProgram_179 : List RI := [(.aload_n 0, 1, 0, 0, []), (.getfield 9, 3, 0, 121, []), (.getfield 79, 3, 0, 217, []), (.ifCond .ne 14, 3, 0, 200, [])]
def KX3_judgeProgram_189 : List RI := [(.aload_n 0, 1, 0, 0, []), (.getfield 20, 3, 0, 120, []), (.aload_n 0, 1, 0, 0, []), (.getfield 9, 3, 0, 121, []), (.invokevirtual 82, 3, 1, 20, [(0, 0), (0, 0), (0, 0)])]
def KX3_judgeProgram_200 : List RI := [(.aload_n 0, 1, 0, 0, []), (.getfield 9, 3, 0, 121, []), (.getfield 79, 3, 0, 217, []), (.ifCond .ne 14, 3, 0, 221, [])]
def KX3_judgeProgram_210 : List RI := [(.aload_n 0, 1, 0, 0, []), (.getfield 20, 3, 0, 120, []), (.aload_n 0, 1, 0, 0, []), (.getfield 9, 3, 0, 121, []), (.invokevirtual 85, 3, 1, 28, [(0, 0), (0, 0), (0, 0)])]
def KX3_judgeProgram_221 : List RI := [(.return_, 1, 0, 0, [])]
def KX3_judgeProgram : RB := [(0, KX3_judgeProgram_0), (7, KX3_judgeProgram_7), (21, KX3_judgeProgram_21), (32, KX3_judgeProgram_32), (34, KX3_judgeProgram_34), (48, KX3_judgeProgram_48), (68, KX3_judgeProgram_68), (93, KX3_judgeProgram_93), (99, KX3_judgeProgram_99), (101, KX3_judgeProgram_101), (115, KX3_judgeProgram_115), (139, KX3_judgeProgram_139), (141, KX3_judgeProgram_141), (155, KX3_judgeProgram_155), (179, KX3_judgeProgram_179), (189, KX3_judgeProgram_189), (200, KX3_judgeProgram_200), (210, KX3_judgeProgram_210), (221, KX3_judgeProgram_221)]
def rX3_judgeProgram : CmC := (yX3_judgeProgram, cX3_judgeProgram, 3, none, 1, 4, false)
theorem hX3_judgeProgram : mtC[49]? = some rX3_judgeProgram := rfl
set_option maxRecDepth 100000 in
theorem okX3_judgeProgram : cokMC rX3_judgeProgram KX3_judgeProgram = true := cokMC_of [] (fun _ h => absurd h List.not_mem_nil) (by decide +kernel) (by decide +kernel)
def KX3_judgeMethod_0 : List RI := [(.aload_n 0, 1, 0, 0, []), (.getfield 9, 3, 0, 121, []), (.getfield 24, 3, 0, 211, []), (.iload_n 1, 1, 0, 1, []), (.invokevirtual 43, 3, 1, 235, []), (.checkcast 88, 3, 0, 6, []), (.astore_n 2, 1, 0, 2, []), (.iconst 0, 1, 0, 0, []), (.istore_n 3, 1, 0, 3, [])]
def KX3_judgeMethod_17 : List RI := [(.iload_n 3, 1, 0, 3, []), (.bipush 11, 2, 0, 0, []), (.if_icmp .gt 73, 3, 0, 93, [])]
def KX3_judgeMethod_23 : List RI := [(.iload_n 3, 1, 0, 3, []), (.iload_n 1, 1, 0, 1, []), (.if_icmp .lt 9, 3, 0, 34, [])]
def KX3_judgeMethod_28 : List RI := [(.iload_n 3, 1, 0, 3, []), (.bipush 10, 2, 0, 0, []), (.if_icmp .lt 14, 3, 0, 45, [])]
def KX3_judgeMethod_34 : List RI := [(.aload_n 0, 1, 0, 0, []), (.getfield 9, 3, 0, 121, []), (.iload_n 3, 1, 0, 3, []), (.invokevirtual 90, 3, 1, 119, [(0, 0), (0, 0), (0, 0), (0, 0), (0, 0), (0, 0), (0, 0)]), (.goto 4, 3, 0, 46, [])]
def KX3_judgeMethod_45 : List RI := [(.aconst_null, 1, 0, 0, [])]
def KX3_judgeMethod_46 : List RI := [(.astore 4, 2, 0, 0, []), (.aload 4, 2, 0, 0, []), (.ifnull 37, 3, 0, 87, [])]
def KX3_judgeMethod_53 : List RI := [(.aload 4, 2, 0, 0, []), (.getfield 94, 3, 0, 181, []), (.aload_n 2, 1, 0, 2, []), (.getfield 94, 3, 0, 181, []), (.lcmp, 1, 0, 0, []), (.ifCond .ne 24, 3, 0, 87, [])]
def KX3_judgeMethod_66 : List RI := [(.aload 4, 2, 0, 0, []), (.aload_n 2, 1, 0, 2, []), (.invokevirtual 98, 3, 1, 113, [(0, 0), (0, 0), (0, 0), (0, 0), (0, 0), (0, 0)]), (.ifCond .eq 15, 3, 0, 87, [])]
def KX3_judgeMethod_75 : List RI := [(.aload_n 0, 1, 0, 0, []), (.getfield 9, 3, 0, 121, []), (.iconst 1, 1, 0, 0, []), (.aload_n 2, 1, 0, 2, []), (.getfield 102, 3, 0, 180, []), (.invokevirtual 57, 3, 2, 118, [(0, 0), (0, 0), (0, 0), (0, 0), (0, 0), (0, 0), (0, 0)])]
def KX3_judgeMethod_87 : List RI := [(.iinc 3 1, 3, 0, 0, []), (.goto (-73), 3, 0, 17, [])]
def KX3_judgeMethod_93 : List RI := [(.return_, 1, 0, 0, [])]
def KX3_judgeMethod : RB := [(0, KX3_judgeMethod_0), (17, KX3_judgeMethod_17), (23, KX3_judgeMethod_23), (28, KX3_judgeMethod_28), (34, KX3_judgeMethod_34), (45, KX3_judgeMethod_45), (46, KX3_judgeMethod_46), (53, KX3_judgeMethod_53), (66, KX3_judgeMethod_66), (75, KX3_judgeMethod_75), (87, KX3_judgeMethod_87), (93, KX3_judgeMethod_93)]
def rX3_judgeMethod : CmC := (yX3_judgeMethod, cX3_judgeMethod, 5, none, 1, 4, false)
theorem hX3_judgeMethod : mtC[50]? = some rX3_judgeMethod := rfl
set_option maxRecDepth 100000 in
theorem okX3_judgeMethod : cokMC rX3_judgeMethod KX3_judgeMethod = true := cokMC_of [] (fun _ h => absurd h List.not_mem_nil) (by decide +kernel) (by decide +kernel)
def KX3_variableOf_0 : List RI := [(.aload_n 1, 1, 0, 1, []), (.getfield 103, 3, 0, 67, []), (.ifCond .lt 40, 3, 0, 44, [])]
def KX3_variableOf_7 : List RI := [(.aload_n 1, 1, 0, 1, []), (.getfield 103, 3, 0, 67, []), (.aload_n 0, 1, 0, 0, []), (.getfield 9, 3, 0, 121, []), (.getfield 40, 3, 0, 212, []), (.invokevirtual 30, 3, 0, 234, []), (.if_icmp .ge 23, 3, 0, 44, [])]
def KX3_variableOf_24 : List RI := [(.aload_n 0, 1, 0, 0, []), (.getfield 9, 3, 0, 121, []), (.getfield 40, 3, 0, 212, []), (.aload_n 1, 1, 0, 1, []), (.getfield 103, 3, 0, 67, []), (.invokevirtual 43, 3, 1, 235, []), (.checkcast 47, 3, 0, 11, []), (.goto 4, 3, 0, 45, [])]
def KX3_variableOf_44 : List RI := [(.aconst_null, 1, 0, 0, [])]
def KX3_variableOf_45 : List RI := [(.areturn, 1, 0, 0, [])]
def KX3_variableOf : RB := [(0, KX3_variableOf_0), (7, KX3_variableOf_7), (24, KX3_variableOf_24), (44, KX3_variableOf_44), (45, KX3_variableOf_45)]
def rX3_variableOf : CmC := (yX3_variableOf, cX3_variableOf, 2, (some (.object "PlainJava$Variable")), 1, 4, false)
theorem hX3_variableOf : mtC[51]? = some rX3_variableOf := rfl
set_option maxRecDepth 100000 in
theorem okX3_variableOf : cokMC rX3_variableOf KX3_variableOf = true := cokMC_of [] (fun _ h => absurd h List.not_mem_nil) (by decide +kernel) (by decide +kernel)
def KX3_isFaulty_0 : List RI := [(.aload_n 0, 1, 0, 0, []), (.ifnull 11, 3, 0, 12, [])]
def KX3_isFaulty_4 : List RI := [(.aload_n 0, 1, 0, 0, []), (.getfield 106, 3, 0, 68, []), (.iconst (-1), 1, 0, 0, []), (.if_icmp .ne 7, 3, 0, 16, [])]
def KX3_isFaulty_12 : List RI := [(.iconst 1, 1, 0, 0, []), (.goto 4, 3, 0, 17, [])]
def KX3_isFaulty_16 : List RI := [(.iconst 0, 1, 0, 0, [])]
def KX3_isFaulty_17 : List RI := [(.ireturn, 1, 2, 0, [])]
def KX3_isFaulty : RB := [(0, KX3_isFaulty_0), (4, KX3_isFaulty_4), (12, KX3_isFaulty_12), (16, KX3_isFaulty_16), (17, KX3_isFaulty_17)]
def rX3_isFaulty : CmC := (yX3_isFaulty, cX3_isFaulty, 1, (some .boolean), 1, 4, true)
theorem hX3_isFaulty : mtC[52]? = some rX3_isFaulty := rfl
set_option maxRecDepth 100000 in
theorem okX3_isFaulty : cokMC rX3_isFaulty KX3_isFaulty = true := cokMC_of [] (fun _ h => absurd h List.not_mem_nil) (by decide +kernel) (by decide +kernel)
def KX3_judgeExp_0 : List RI := [(.aload_n 1, 1, 0, 1, []), (.getfield 109, 3, 0, 60, []), (.tableswitch 152 0 15 #[80, 152, 88, 96, 96, 96, 104, 112, 120, 128, 136, 152, 152, 152, 152, 144], 80, 0, 156, [(0, 84), (1, 156), (2, 92), (3, 100), (4, 100), (5, 100), (6, 108), (7, 116), (8, 124), (9, 132), (10, 140), (11, 156), (12, 156), (13, 156), (14, 156), (15, 148)])]
def KX3_judgeExp_84 : List RI := [(.aload_n 0, 1, 0, 0, []), (.aload_n 1, 1, 0, 1, []), (.invokevirtual 112, 3, 1, 54, [(0, 0), (0, 0), (0, 0), (0, 0)]), (.goto 67, 3, 0, 156, [])]
def KX3_judgeExp_92 : List RI := [(.aload_n 0, 1, 0, 0, []), (.aload_n 1, 1, 0, 1, []), (.invokevirtual 115, 3, 1, 55, [(0, 0), (0, 0), (0, 0), (0, 0)]), (.goto 59, 3, 0, 156, [])]
def KX3_judgeExp_100 : List RI := [(.aload_n 0, 1, 0, 0, []), (.aload_n 1, 1, 0, 1, []), (.invokevirtual 118, 3, 1, 56, [(0, 0), (0, 0), (0, 0), (0, 0)]), (.goto 51, 3, 0, 156, [])]
def KX3_judgeExp_108 : List RI := [(.aload_n 0, 1, 0, 0, []), (.aload_n 1, 1, 0, 1, []), (.invokevirtual 121, 3, 1, 60, [(0, 0), (0, 0), (0, 0), (0, 0)]), (.goto 43, 3, 0, 156, [])]
def KX3_judgeExp_116 : List RI := [(.aload_n 0, 1, 0, 0, []), (.aload_n 1, 1, 0, 1, []), (.invokevirtual 124, 3, 1, 69, [(0, 0), (0, 0), (0, 0), (0, 0)]), (.goto 35, 3, 0, 156, [])]
def KX3_judgeExp_124 : List RI := [(.aload_n 0, 1, 0, 0, []), (.aload_n 1, 1, 0, 1, []), (.invokevirtual 127, 3, 1, 71, [(0, 0), (0, 0), (0, 0), (0, 0)]), (.goto 27, 3, 0, 156, [])]
def KX3_judgeExp_132 : List RI := [(.aload_n 0, 1, 0, 0, []), (.aload_n 1, 1, 0, 1, []), (.invokevirtual 130, 3, 1, 61, [(0, 0), (0, 0), (0, 0), (0, 0)]), (.goto 19, 3, 0, 156, [])]
def KX3_judgeExp_140 : List RI := [(.aload_n 0, 1, 0, 0, []), (.aload_n 1, 1, 0, 1, []), (.invokevirtual 133, 3, 1, 76, [(0, 0), (0, 0), (0, 0), (0, 0)]), (.goto 11, 3, 0, 156, [])]
def KX3_judgeExp_148 : List RI := [(.aload_n 0, 1, 0, 0, []), (.aload_n 1, 1, 0, 1, []), (.invokevirtual 136, 3, 1, 79, [(0, 0), (0, 0), (0, 0), (0, 0)]), (.goto 3, 3, 0, 156, [])]
def KX3_judgeExp_156 : List RI := [(.return_, 1, 0, 0, [])]
def KX3_judgeExp : RB := [(0, KX3_judgeExp_0), (84, KX3_judgeExp_84), (92, KX3_judgeExp_92), (100, KX3_judgeExp_100), (108, KX3_judgeExp_108), (116, KX3_judgeExp_116), (124, KX3_judgeExp_124), (132, KX3_judgeExp_132), (140, KX3_judgeExp_140), (148, KX3_judgeExp_148), (156, KX3_judgeExp_156)]
def rX3_judgeExp : CmC := (yX3_judgeExp, cX3_judgeExp, 2, none, 1, 4, false)
theorem hX3_judgeExp : mtC[53]? = some rX3_judgeExp := rfl
set_option maxRecDepth 100000 in
theorem swX3_judgeExp_4 : decode cX3_judgeExp 4 = .ok (.tableswitch 152 0 15 #[80, 152, 88, 96, 96, 96, 104, 112, 120, 128, 136, 152, 152, 152, 152, 144], 80) := by decide +kernel
set_option maxRecDepth 100000 in
theorem okX3_judgeExp : cokMC rX3_judgeExp KX3_judgeExp = true := cokMC_of [(4, .tableswitch 152 0 15 #[80, 152, 88, 96, 96, 96, 104, 112, 120, 128, 136, 152, 152, 152, 152, 144], 80)] (fun q hq => by
  obtain rfl := List.mem_singleton.mp hq
  exact swX3_judgeExp_4) (by decide +kernel) (by decide +kernel)
def KX3_judgeNumber_0 : List RI := [(.aload_n 1, 1, 0, 1, []), (.getfield 139, 3, 0, 61, []), (.bipush 82, 2, 0, 0, []), (.if_icmp .ne 7, 3, 0, 13, [])]
def KX3_judgeNumber_9 : List RI := [(.iconst 1, 1, 0, 0, []), (.goto 4, 3, 0, 14, [])]
def KX3_judgeNumber_13 : List RI := [(.iconst 0, 1, 0, 0, [])]
def KX3_judgeNumber_14 : List RI := [(.istore_n 2, 1, 0, 2, []), (.iload_n 2, 1, 0, 2, []), (.ifCond .eq 9, 3, 0, 25, [])]
def KX3_judgeNumber_19 : List RI := [(.ldc2_w 142, 3, 9223372036854775807, 0, []), (.goto 6, 3, 0, 28, [])]
def KX3_judgeNumber_25 : List RI := [(.ldc2_w 144, 3, 2147483647, 0, [])]
def KX3_judgeNumber_28 : List RI := [(.lstore_n 3, 1, 0, 3, []), (.aload_n 1, 1, 0, 1, []), (.getfield 146, 3, 0, 71, []), (.lload_n 3, 1, 0, 3, []), (.lconst 1, 1, 0, 0, []), (.ladd, 1, 0, 0, []), (.lcmp, 1, 0, 0, []), (.ifCond .ne 15, 3, 0, 52, [])]
def KX3_judgeNumber_40 : List RI := [(.aload_n 1, 1, 0, 1, []), (.getfield 103, 3, 0, 67, []), (.iconst 1, 1, 0, 0, []), (.if_icmp .ne 7, 3, 0, 52, [])]
def KX3_judgeNumber_48 : List RI := [(.iconst 1, 1, 0, 0, []), (.goto 4, 3, 0, 53, [])]
def KX3_judgeNumber_52 : List RI := [(.iconst 0, 1, 0, 0, [])]
def KX3_judgeNumber_53 : List RI := [(.istore 5, 2, 0, 0, []), (.aload_n 1, 1, 0, 1, []), (.getfield 146, 3, 0, 71, []), (.lconst 0, 1, 0, 0, []), (.lcmp, 1, 0, 0, []), (.ifCond .lt 12, 3, 0, 73, [])]
def KX3_judgeNumber_64 : List RI := [(.aload_n 1, 1, 0, 1, []), (.getfield 146, 3, 0, 71, []), (.lload_n 3, 1, 0, 3, []), (.lcmp, 1, 0, 0, []), (.ifCond .le 21, 3, 0, 91, [])]
def KX3_judgeNumber_73 : List RI := [(.iload 5, 2, 0, 0, []), (.ifCond .ne 16, 3, 0, 91, [])]
def KX3_judgeNumber_78 : List RI := [(.aload_n 0, 1, 0, 0, []), (.getfield 9, 3, 0, 121, []), (.iconst 4, 1, 0, 0, []), (.aload_n 1, 1, 0, 1, []), (.getfield 149, 3, 0, 62, []), (.invokevirtual 57, 3, 2, 118, [(0, 0), (0, 0), (0, 0), (0, 0), (0, 0), (0, 0), (0, 0)]), (.return_, 1, 0, 0, [])]
def KX3_judgeNumber_91 : List RI := [(.aload_n 1, 1, 0, 1, []), (.iload_n 2, 1, 0, 2, []), (.ifCond .eq 7, 3, 0, 100, [])]
def KX3_judgeNumber_96 : List RI := [(.iconst 4, 1, 0, 0, []), (.goto 4, 3, 0, 101, [])]
def KX3_judgeNumber_100 : List RI := [(.iconst 3, 1, 0, 0, [])]
def KX3_judgeNumber_101 : List RI := [(.putfield 106, 3, 0, 68, []), (.aload_n 1, 1, 0, 1, []), (.aload_n 1, 1, 0, 1, []), (.getfield 106, 3, 0, 68, []), (.aload_n 1, 1, 0, 1, []), (.getfield 146, 3, 0, 71, []), (.invokestatic 152, 3, 2, 228, []), (.putfield 146, 3, 0, 71, []), (.return_, 1, 0, 0, [])]
def KX3_judgeNumber : RB := [(0, KX3_judgeNumber_0), (9, KX3_judgeNumber_9), (13, KX3_judgeNumber_13), (14, KX3_judgeNumber_14), (19, KX3_judgeNumber_19), (25, KX3_judgeNumber_25), (28, KX3_judgeNumber_28), (40, KX3_judgeNumber_40), (48, KX3_judgeNumber_48), (52, KX3_judgeNumber_52), (53, KX3_judgeNumber_53), (64, KX3_judgeNumber_64), (73, KX3_judgeNumber_73), (78, KX3_judgeNumber_78), (91, KX3_judgeNumber_91), (96, KX3_judgeNumber_96), (100, KX3_judgeNumber_100), (101, KX3_judgeNumber_101)]
def rX3_judgeNumber : CmC := (yX3_judgeNumber, cX3_judgeNumber, 6, none, 1, 4, false)
theorem hX3_judgeNumber : mtC[54]? = some rX3_judgeNumber := rfl
set_option maxRecDepth 100000 in
theorem okX3_judgeNumber : cokMC rX3_judgeNumber KX3_judgeNumber = true := cokMC_of [] (fun _ h => absurd h List.not_mem_nil) (by decide +kernel) (by decide +kernel)
def KX3_judgeName_0 : List RI := [(.aload_n 0, 1, 0, 0, []), (.aload_n 1, 1, 0, 1, []), (.invokevirtual 156, 3, 1, 51, [(0, 0), (0, 0), (0, 0), (0, 0)]), (.astore_n 2, 1, 0, 2, []), (.aload_n 2, 1, 0, 2, []), (.ifnonnull 16, 3, 0, 23, [])]
def KX3_judgeName_10 : List RI := [(.aload_n 0, 1, 0, 0, []), (.getfield 9, 3, 0, 121, []), (.iconst 3, 1, 0, 0, []), (.aload_n 1, 1, 0, 1, []), (.getfield 149, 3, 0, 62, []), (.invokevirtual 57, 3, 2, 118, [(0, 0), (0, 0), (0, 0), (0, 0), (0, 0), (0, 0), (0, 0)]), (.return_, 1, 0, 0, [])]
def KX3_judgeName_23 : List RI := [(.aload_n 1, 1, 0, 1, []), (.aload_n 2, 1, 0, 2, []), (.getfield 160, 3, 0, 331, []), (.putfield 106, 3, 0, 68, []), (.aload_n 2, 1, 0, 2, []), (.getfield 161, 3, 0, 335, []), (.ifCond .eq 16, 3, 0, 51, [])]
def KX3_judgeName_38 : List RI := [(.aload_n 1, 1, 0, 1, []), (.iconst 1, 1, 0, 0, []), (.putfield 164, 3, 0, 70, []), (.aload_n 1, 1, 0, 1, []), (.aload_n 2, 1, 0, 2, []), (.getfield 165, 3, 0, 336, []), (.putfield 146, 3, 0, 71, [])]
def KX3_judgeName_51 : List RI := [(.return_, 1, 0, 0, [])]
def KX3_judgeName : RB := [(0, KX3_judgeName_0), (10, KX3_judgeName_10), (23, KX3_judgeName_23), (38, KX3_judgeName_38), (51, KX3_judgeName_51)]
def rX3_judgeName : CmC := (yX3_judgeName, cX3_judgeName, 3, none, 1, 4, false)
theorem hX3_judgeName : mtC[55]? = some rX3_judgeName := rfl
set_option maxRecDepth 100000 in
theorem okX3_judgeName : cokMC rX3_judgeName KX3_judgeName = true := cokMC_of [] (fun _ h => absurd h List.not_mem_nil) (by decide +kernel) (by decide +kernel)
def KX3_judgeOfOne_0 : List RI := [(.aload_n 1, 1, 0, 1, []), (.getfield 166, 3, 0, 72, []), (.astore_n 2, 1, 0, 2, []), (.aload_n 2, 1, 0, 2, []), (.invokestatic 170, 3, 1, 52, []), (.ifCond .eq 4, 3, 0, 13, [])]
def KX3_judgeOfOne_12 : List RI := [(.return_, 1, 0, 0, [])]
def KX3_judgeOfOne_13 : List RI := [(.aload_n 1, 1, 0, 1, []), (.getfield 109, 3, 0, 60, []), (.iconst 3, 1, 0, 0, []), (.if_icmp .eq 27, 3, 0, 45, [])]
def KX3_judgeOfOne_21 : List RI := [(.aload_n 1, 1, 0, 1, []), (.aload_n 2, 1, 0, 2, []), (.getfield 106, 3, 0, 68, []), (.invokestatic 174, 3, 2, 57, []), (.ifCond .ne 16, 3, 0, 45, [])]
def KX3_judgeOfOne_32 : List RI := [(.aload_n 0, 1, 0, 0, []), (.getfield 9, 3, 0, 121, []), (.iconst 5, 1, 0, 0, []), (.aload_n 2, 1, 0, 2, []), (.getfield 149, 3, 0, 62, []), (.invokevirtual 57, 3, 2, 118, [(0, 0), (0, 0), (0, 0), (0, 0), (0, 0), (0, 0), (0, 0)]), (.return_, 1, 0, 0, [])]
def KX3_judgeOfOne_45 : List RI := [(.aload_n 1, 1, 0, 1, []), (.getfield 109, 3, 0, 60, []), (.iconst 5, 1, 0, 0, []), (.if_icmp .ne 14, 3, 0, 64, [])]
def KX3_judgeOfOne_53 : List RI := [(.aload_n 1, 1, 0, 1, []), (.aload_n 1, 1, 0, 1, []), (.getfield 178, 3, 0, 69, []), (.putfield 106, 3, 0, 68, []), (.goto 38, 3, 0, 99, [])]
def KX3_judgeOfOne_64 : List RI := [(.aload_n 1, 1, 0, 1, []), (.aload_n 1, 1, 0, 1, []), (.getfield 109, 3, 0, 60, []), (.iconst 3, 1, 0, 0, []), (.if_icmp .eq 12, 3, 0, 82, [])]
def KX3_judgeOfOne_73 : List RI := [(.aload_n 1, 1, 0, 1, []), (.getfield 139, 3, 0, 61, []), (.bipush 39, 2, 0, 0, []), (.if_icmp .ne 10, 3, 0, 89, [])]
def KX3_judgeOfOne_82 : List RI := [(.aload_n 2, 1, 0, 2, []), (.getfield 106, 3, 0, 68, []), (.goto 10, 3, 0, 96, [])]
def KX3_judgeOfOne_89 : List RI := [(.aload_n 2, 1, 0, 2, []), (.getfield 106, 3, 0, 68, []), (.invokestatic 181, 3, 1, 58, [])]
def KX3_judgeOfOne_96 : List RI := [(.putfield 106, 3, 0, 68, [])]
def KX3_judgeOfOne_99 : List RI := [(.aload_n 1, 1, 0, 1, []), (.aload_n 2, 1, 0, 2, []), (.getfield 164, 3, 0, 70, []), (.putfield 164, 3, 0, 70, []), (.aload_n 1, 1, 0, 1, []), (.aload_n 1, 1, 0, 1, []), (.getfield 109, 3, 0, 60, []), (.iconst 4, 1, 0, 0, []), (.if_icmp .ne 21, 3, 0, 134, [])]
def KX3_judgeOfOne_116 : List RI := [(.aload_n 1, 1, 0, 1, []), (.getfield 139, 3, 0, 61, []), (.aload_n 1, 1, 0, 1, []), (.getfield 106, 3, 0, 68, []), (.aload_n 2, 1, 0, 2, []), (.getfield 146, 3, 0, 71, []), (.invokestatic 185, 3, 3, 232, []), (.goto 14, 3, 0, 145, [])]
def KX3_judgeOfOne_134 : List RI := [(.aload_n 1, 1, 0, 1, []), (.getfield 106, 3, 0, 68, []), (.aload_n 2, 1, 0, 2, []), (.getfield 146, 3, 0, 71, []), (.invokestatic 152, 3, 2, 228, [])]
def KX3_judgeOfOne_145 : List RI := [(.putfield 146, 3, 0, 71, []), (.return_, 1, 0, 0, [])]
def KX3_judgeOfOne : RB := [(0, KX3_judgeOfOne_0), (12, KX3_judgeOfOne_12), (13, KX3_judgeOfOne_13), (21, KX3_judgeOfOne_21), (32, KX3_judgeOfOne_32), (45, KX3_judgeOfOne_45), (53, KX3_judgeOfOne_53), (64, KX3_judgeOfOne_64), (73, KX3_judgeOfOne_73), (82, KX3_judgeOfOne_82), (89, KX3_judgeOfOne_89), (96, KX3_judgeOfOne_96), (99, KX3_judgeOfOne_99), (116, KX3_judgeOfOne_116), (134, KX3_judgeOfOne_134), (145, KX3_judgeOfOne_145)]
def rX3_judgeOfOne : CmC := (yX3_judgeOfOne, cX3_judgeOfOne, 3, none, 1, 4, false)
theorem hX3_judgeOfOne : mtC[56]? = some rX3_judgeOfOne := rfl
set_option maxRecDepth 100000 in
theorem okX3_judgeOfOne : cokMC rX3_judgeOfOne KX3_judgeOfOne = true := cokMC_of [] (fun _ h => absurd h List.not_mem_nil) (by decide +kernel) (by decide +kernel)
def KX3_isTakenAlone_0 : List RI := [(.aload_n 0, 1, 0, 0, []), (.getfield 109, 3, 0, 60, []), (.iconst 5, 1, 0, 0, []), (.if_icmp .ne 37, 3, 0, 42, [])]
def KX3_isTakenAlone_8 : List RI := [(.iload_n 1, 1, 0, 1, []), (.invokestatic 189, 3, 1, 223, []), (.ifCond .eq 13, 3, 0, 25, [])]
def KX3_isTakenAlone_15 : List RI := [(.aload_n 0, 1, 0, 0, []), (.getfield 178, 3, 0, 69, []), (.invokestatic 189, 3, 1, 223, []), (.ifCond .ne 14, 3, 0, 36, [])]
def KX3_isTakenAlone_25 : List RI := [(.iload_n 1, 1, 0, 1, []), (.ifCond .ne 14, 3, 0, 40, [])]
def KX3_isTakenAlone_29 : List RI := [(.aload_n 0, 1, 0, 0, []), (.getfield 178, 3, 0, 69, []), (.ifCond .ne 7, 3, 0, 40, [])]
def KX3_isTakenAlone_36 : List RI := [(.iconst 1, 1, 0, 0, []), (.goto 4, 3, 0, 41, [])]
def KX3_isTakenAlone_40 : List RI := [(.iconst 0, 1, 0, 0, [])]
def KX3_isTakenAlone_41 : List RI := [(.ireturn, 1, 2, 0, [])]
def KX3_isTakenAlone_42 : List RI := [(.aload_n 0, 1, 0, 0, []), (.getfield 139, 3, 0, 61, []), (.bipush 39, 2, 0, 0, []), (.if_icmp .ne 15, 3, 0, 63, [])]
def KX3_isTakenAlone_51 : List RI := [(.iload_n 1, 1, 0, 1, []), (.ifCond .ne 7, 3, 0, 59, [])]
def KX3_isTakenAlone_55 : List RI := [(.iconst 1, 1, 0, 0, []), (.goto 11, 3, 0, 67, [])]
def KX3_isTakenAlone_59 : List RI := [(.iconst 0, 1, 0, 0, []), (.goto 7, 3, 0, 67, [])]
def KX3_isTakenAlone_63 : List RI := [(.iload_n 1, 1, 0, 1, []), (.invokestatic 189, 3, 1, 223, [])]
def KX3_isTakenAlone_67 : List RI := [(.ireturn, 1, 2, 0, [])]
def KX3_isTakenAlone : RB := [(0, KX3_isTakenAlone_0), (8, KX3_isTakenAlone_8), (15, KX3_isTakenAlone_15), (25, KX3_isTakenAlone_25), (29, KX3_isTakenAlone_29), (36, KX3_isTakenAlone_36), (40, KX3_isTakenAlone_40), (41, KX3_isTakenAlone_41), (42, KX3_isTakenAlone_42), (51, KX3_isTakenAlone_51), (55, KX3_isTakenAlone_55), (59, KX3_isTakenAlone_59), (63, KX3_isTakenAlone_63), (67, KX3_isTakenAlone_67)]
def rX3_isTakenAlone : CmC := (yX3_isTakenAlone, cX3_isTakenAlone, 2, (some .boolean), 2, 4, true)
theorem hX3_isTakenAlone : mtC[57]? = some rX3_isTakenAlone := rfl
set_option maxRecDepth 100000 in
theorem okX3_isTakenAlone : cokMC rX3_isTakenAlone KX3_isTakenAlone = true := cokMC_of [] (fun _ h => absurd h List.not_mem_nil) (by decide +kernel) (by decide +kernel)
def KX3_promoted_0 : List RI := [(.iload_n 0, 1, 0, 0, []), (.iconst 4, 1, 0, 0, []), (.if_icmp .ne 7, 3, 0, 9, [])]
def KX3_promoted_5 : List RI := [(.iconst 4, 1, 0, 0, []), (.goto 4, 3, 0, 10, [])]
def KX3_promoted_9 : List RI := [(.iconst 3, 1, 0, 0, [])]
def KX3_promoted_10 : List RI := [(.ireturn, 1, 1, 0, [])]
def KX3_promoted : RB := [(0, KX3_promoted_0), (5, KX3_promoted_5), (9, KX3_promoted_9), (10, KX3_promoted_10)]
def rX3_promoted : CmC := (yX3_promoted, cX3_promoted, 1, (some .int), 1, 4, true)
theorem hX3_promoted : mtC[58]? = some rX3_promoted := rfl
set_option maxRecDepth 100000 in
theorem okX3_promoted : cokMC rX3_promoted KX3_promoted = true := cokMC_of [] (fun _ h => absurd h List.not_mem_nil) (by decide +kernel) (by decide +kernel)
def KX3_mayChange_0 : List RI := [(.aload_n 2, 1, 0, 2, []), (.ifnonnull 17, 3, 0, 18, [])]
def KX3_mayChange_4 : List RI := [(.aload_n 0, 1, 0, 0, []), (.getfield 9, 3, 0, 121, []), (.iconst 3, 1, 0, 0, []), (.aload_n 1, 1, 0, 1, []), (.getfield 193, 3, 0, 66, []), (.invokevirtual 57, 3, 2, 118, [(0, 0), (0, 0), (0, 0), (0, 0), (0, 0), (0, 0), (0, 0)]), (.iconst 0, 1, 0, 0, []), (.ireturn, 1, 2, 0, [])]
def KX3_mayChange_18 : List RI := [(.aload_n 2, 1, 0, 2, []), (.getfield 194, 3, 0, 332, []), (.ifCond .eq 16, 3, 0, 38, [])]
def KX3_mayChange_25 : List RI := [(.aload_n 0, 1, 0, 0, []), (.getfield 9, 3, 0, 121, []), (.bipush 7, 2, 0, 0, []), (.aload_n 1, 1, 0, 1, []), (.getfield 193, 3, 0, 66, []), (.invokevirtual 57, 3, 2, 118, [(0, 0), (0, 0), (0, 0), (0, 0), (0, 0), (0, 0), (0, 0)])]
def KX3_mayChange_38 : List RI := [(.aload_n 2, 1, 0, 2, []), (.getfield 194, 3, 0, 332, []), (.ifCond .ne 7, 3, 0, 49, [])]
def KX3_mayChange_45 : List RI := [(.iconst 1, 1, 0, 0, []), (.goto 4, 3, 0, 50, [])]
def KX3_mayChange_49 : List RI := [(.iconst 0, 1, 0, 0, [])]
def KX3_mayChange_50 : List RI := [(.ireturn, 1, 2, 0, [])]
def KX3_mayChange : RB := [(0, KX3_mayChange_0), (4, KX3_mayChange_4), (18, KX3_mayChange_18), (25, KX3_mayChange_25), (38, KX3_mayChange_38), (45, KX3_mayChange_45), (49, KX3_mayChange_49), (50, KX3_mayChange_50)]
def rX3_mayChange : CmC := (yX3_mayChange, cX3_mayChange, 3, (some .boolean), 2, 4, false)
theorem hX3_mayChange : mtC[59]? = some rX3_mayChange := rfl
set_option maxRecDepth 100000 in
theorem okX3_mayChange : cokMC rX3_mayChange KX3_mayChange = true := cokMC_of [] (fun _ h => absurd h List.not_mem_nil) (by decide +kernel) (by decide +kernel)
def KX3_judgeCount_0 : List RI := [(.aload_n 0, 1, 0, 0, []), (.aload_n 1, 1, 0, 1, []), (.invokevirtual 156, 3, 1, 51, [(0, 0), (0, 0), (0, 0), (0, 0)]), (.astore_n 2, 1, 0, 2, []), (.aload_n 0, 1, 0, 0, []), (.aload_n 1, 1, 0, 1, []), (.aload_n 2, 1, 0, 2, []), (.invokevirtual 197, 3, 2, 59, [(0, 0), (0, 0), (0, 0), (0, 0)]), (.istore_n 3, 1, 0, 3, []), (.aload_n 2, 1, 0, 2, []), (.ifnonnull 4, 3, 0, 18, [])]
def KX3_judgeCount_17 : List RI := [(.return_, 1, 0, 0, [])]
def KX3_judgeCount_18 : List RI := [(.aload_n 2, 1, 0, 2, []), (.getfield 160, 3, 0, 331, []), (.invokestatic 189, 3, 1, 223, []), (.ifCond .ne 18, 3, 0, 43, [])]
def KX3_judgeCount_28 : List RI := [(.aload_n 0, 1, 0, 0, []), (.getfield 9, 3, 0, 121, []), (.iconst 5, 1, 0, 0, []), (.aload_n 1, 1, 0, 1, []), (.getfield 149, 3, 0, 62, []), (.invokevirtual 57, 3, 2, 118, [(0, 0), (0, 0), (0, 0), (0, 0), (0, 0), (0, 0), (0, 0)]), (.goto 15, 3, 0, 55, [])]
def KX3_judgeCount_43 : List RI := [(.iload_n 3, 1, 0, 3, []), (.ifCond .eq 11, 3, 0, 55, [])]
def KX3_judgeCount_47 : List RI := [(.aload_n 1, 1, 0, 1, []), (.aload_n 2, 1, 0, 2, []), (.getfield 160, 3, 0, 331, []), (.putfield 106, 3, 0, 68, [])]
def KX3_judgeCount_55 : List RI := [(.return_, 1, 0, 0, [])]
def KX3_judgeCount : RB := [(0, KX3_judgeCount_0), (17, KX3_judgeCount_17), (18, KX3_judgeCount_18), (28, KX3_judgeCount_28), (43, KX3_judgeCount_43), (47, KX3_judgeCount_47), (55, KX3_judgeCount_55)]
def rX3_judgeCount : CmC := (yX3_judgeCount, cX3_judgeCount, 4, none, 1, 4, false)
theorem hX3_judgeCount : mtC[60]? = some rX3_judgeCount := rfl
set_option maxRecDepth 100000 in
theorem okX3_judgeCount : cokMC rX3_judgeCount KX3_judgeCount = true := cokMC_of [] (fun _ h => absurd h List.not_mem_nil) (by decide +kernel) (by decide +kernel)
def KX3_judgeAssignment_0 : List RI := [(.aload_n 0, 1, 0, 0, []), (.aload_n 1, 1, 0, 1, []), (.invokevirtual 156, 3, 1, 51, [(0, 0), (0, 0), (0, 0), (0, 0)]), (.astore_n 2, 1, 0, 2, []), (.aload_n 0, 1, 0, 0, []), (.aload_n 1, 1, 0, 1, []), (.aload_n 2, 1, 0, 2, []), (.invokevirtual 197, 3, 2, 59, [(0, 0), (0, 0), (0, 0), (0, 0)]), (.istore_n 3, 1, 0, 3, []), (.aload_n 2, 1, 0, 2, []), (.ifnonnull 4, 3, 0, 18, [])]
def KX3_judgeAssignment_17 : List RI := [(.return_, 1, 0, 0, [])]
def KX3_judgeAssignment_18 : List RI := [(.aload_n 1, 1, 0, 1, []), (.getfield 139, 3, 0, 61, []), (.bipush 8, 2, 0, 0, []), (.if_icmp .ne 49, 3, 0, 73, [])]
def KX3_judgeAssignment_27 : List RI := [(.iload_n 3, 1, 0, 3, []), (.aload_n 1, 1, 0, 1, []), (.getfield 201, 3, 0, 73, []), (.invokestatic 170, 3, 1, 52, []), (.ifCond .ne 32, 3, 0, 67, [])]
def KX3_judgeAssignment_38 : List RI := [(.aload_n 0, 1, 0, 0, []), (.aload_n 1, 1, 0, 1, []), (.getfield 201, 3, 0, 73, []), (.aload_n 2, 1, 0, 2, []), (.getfield 160, 3, 0, 331, []), (.invokestatic 204, 3, 2, 75, []), (.aload_n 1, 1, 0, 1, []), (.getfield 201, 3, 0, 73, []), (.getfield 149, 3, 0, 62, []), (.invokevirtual 207, 3, 2, 62, [(0, 0), (0, 0), (0, 0), (0, 0)]), (.ifCond .eq 7, 3, 0, 67, [])]
def KX3_judgeAssignment_63 : List RI := [(.iconst 1, 1, 0, 0, []), (.goto 4, 3, 0, 68, [])]
def KX3_judgeAssignment_67 : List RI := [(.iconst 0, 1, 0, 0, [])]
def KX3_judgeAssignment_68 : List RI := [(.iand, 1, 0, 0, []), (.istore_n 3, 1, 0, 3, []), (.goto 19, 3, 0, 89, [])]
def KX3_judgeAssignment_73 : List RI := [(.iload_n 3, 1, 0, 3, []), (.aload_n 0, 1, 0, 0, []), (.aload_n 1, 1, 0, 1, []), (.aload_n 2, 1, 0, 2, []), (.getfield 160, 3, 0, 331, []), (.aload_n 1, 1, 0, 1, []), (.getfield 201, 3, 0, 73, []), (.invokevirtual 211, 3, 3, 63, [(0, 0), (0, 0), (0, 0), (0, 0)]), (.iand, 1, 0, 0, []), (.istore_n 3, 1, 0, 3, [])]
def KX3_judgeAssignment_89 : List RI := [(.iload_n 3, 1, 0, 3, []), (.ifCond .eq 33, 3, 0, 123, [])]
def KX3_judgeAssignment_93 : List RI := [(.aload_n 1, 1, 0, 1, []), (.aload_n 2, 1, 0, 2, []), (.getfield 160, 3, 0, 331, []), (.putfield 106, 3, 0, 68, []), (.aload_n 1, 1, 0, 1, []), (.aload_n 1, 1, 0, 1, []), (.getfield 139, 3, 0, 61, []), (.aload_n 2, 1, 0, 2, []), (.getfield 160, 3, 0, 331, []), (.aload_n 1, 1, 0, 1, []), (.getfield 201, 3, 0, 73, []), (.getfield 106, 3, 0, 68, []), (.invokestatic 215, 3, 3, 68, []), (.putfield 178, 3, 0, 69, [])]
def KX3_judgeAssignment_123 : List RI := [(.return_, 1, 0, 0, [])]
def KX3_judgeAssignment : RB := [(0, KX3_judgeAssignment_0), (17, KX3_judgeAssignment_17), (18, KX3_judgeAssignment_18), (27, KX3_judgeAssignment_27), (38, KX3_judgeAssignment_38), (63, KX3_judgeAssignment_63), (67, KX3_judgeAssignment_67), (68, KX3_judgeAssignment_68), (73, KX3_judgeAssignment_73), (89, KX3_judgeAssignment_89), (93, KX3_judgeAssignment_93), (123, KX3_judgeAssignment_123)]
def rX3_judgeAssignment : CmC := (yX3_judgeAssignment, cX3_judgeAssignment, 4, none, 1, 4, false)
theorem hX3_judgeAssignment : mtC[61]? = some rX3_judgeAssignment := rfl
set_option maxRecDepth 100000 in
theorem okX3_judgeAssignment : cokMC rX3_judgeAssignment KX3_judgeAssignment = true := cokMC_of [] (fun _ h => absurd h List.not_mem_nil) (by decide +kernel) (by decide +kernel)
def KX3_isWanted_0 : List RI := [(.iload_n 1, 1, 0, 1, []), (.ifCond .ne 12, 3, 0, 13, [])]
def KX3_isWanted_4 : List RI := [(.aload_n 0, 1, 0, 0, []), (.getfield 9, 3, 0, 121, []), (.iconst 5, 1, 0, 0, []), (.iload_n 2, 1, 0, 2, []), (.invokevirtual 57, 3, 2, 118, [(0, 0), (0, 0), (0, 0), (0, 0), (0, 0), (0, 0), (0, 0)])]
def KX3_isWanted_13 : List RI := [(.iload_n 1, 1, 0, 1, []), (.ireturn, 1, 2, 0, [])]
def KX3_isWanted : RB := [(0, KX3_isWanted_0), (4, KX3_isWanted_4), (13, KX3_isWanted_13)]
def rX3_isWanted : CmC := (yX3_isWanted, cX3_isWanted, 3, (some .boolean), 2, 4, false)
theorem hX3_isWanted : mtC[62]? = some rX3_isWanted := rfl
set_option maxRecDepth 100000 in
theorem okX3_isWanted : cokMC rX3_isWanted KX3_isWanted = true := cokMC_of [] (fun _ h => absurd h List.not_mem_nil) (by decide +kernel) (by decide +kernel)
def KX3_areTaken_0 : List RI := [(.aload_n 0, 1, 0, 0, []), (.aload_n 1, 1, 0, 1, []), (.getfield 139, 3, 0, 61, []), (.iload_n 2, 1, 0, 2, []), (.invokestatic 219, 3, 2, 66, []), (.aload_n 1, 1, 0, 1, []), (.getfield 149, 3, 0, 62, []), (.invokevirtual 207, 3, 2, 62, [(0, 0), (0, 0), (0, 0), (0, 0)]), (.ifCond .eq 37, 3, 0, 53, [])]
def KX3_areTaken_19 : List RI := [(.aload_n 3, 1, 0, 3, []), (.invokestatic 170, 3, 1, 52, []), (.ifCond .ne 30, 3, 0, 53, [])]
def KX3_areTaken_26 : List RI := [(.aload_n 0, 1, 0, 0, []), (.aload_n 1, 1, 0, 1, []), (.getfield 139, 3, 0, 61, []), (.iload_n 2, 1, 0, 2, []), (.aload_n 3, 1, 0, 3, []), (.getfield 106, 3, 0, 68, []), (.invokestatic 223, 3, 3, 67, []), (.aload_n 3, 1, 0, 3, []), (.getfield 149, 3, 0, 62, []), (.invokevirtual 207, 3, 2, 62, [(0, 0), (0, 0), (0, 0), (0, 0)]), (.ifCond .eq 7, 3, 0, 53, [])]
def KX3_areTaken_49 : List RI := [(.iconst 1, 1, 0, 0, []), (.goto 4, 3, 0, 54, [])]
def KX3_areTaken_53 : List RI := [(.iconst 0, 1, 0, 0, [])]
def KX3_areTaken_54 : List RI := [(.ireturn, 1, 2, 0, [])]
def KX3_areTaken : RB := [(0, KX3_areTaken_0), (19, KX3_areTaken_19), (26, KX3_areTaken_26), (49, KX3_areTaken_49), (53, KX3_areTaken_53), (54, KX3_areTaken_54)]
def rX3_areTaken : CmC := (yX3_areTaken, cX3_areTaken, 4, (some .boolean), 3, 4, false)
theorem hX3_areTaken : mtC[63]? = some rX3_areTaken := rfl
set_option maxRecDepth 100000 in
theorem okX3_areTaken : cokMC rX3_areTaken KX3_areTaken = true := cokMC_of [] (fun _ h => absurd h List.not_mem_nil) (by decide +kernel) (by decide +kernel)
def KX3_isLogical_0 : List RI := [(.iload_n 0, 1, 0, 0, []), (.bipush 21, 2, 0, 0, []), (.if_icmp .eq 9, 3, 0, 12, [])]
def KX3_isLogical_6 : List RI := [(.iload_n 0, 1, 0, 0, []), (.bipush 20, 2, 0, 0, []), (.if_icmp .ne 7, 3, 0, 16, [])]
def KX3_isLogical_12 : List RI := [(.iconst 1, 1, 0, 0, []), (.goto 4, 3, 0, 17, [])]
def KX3_isLogical_16 : List RI := [(.iconst 0, 1, 0, 0, [])]
def KX3_isLogical_17 : List RI := [(.ireturn, 1, 2, 0, [])]
def KX3_isLogical : RB := [(0, KX3_isLogical_0), (6, KX3_isLogical_6), (12, KX3_isLogical_12), (16, KX3_isLogical_16), (17, KX3_isLogical_17)]
def rX3_isLogical : CmC := (yX3_isLogical, cX3_isLogical, 1, (some .boolean), 1, 4, true)
theorem hX3_isLogical : mtC[64]? = some rX3_isLogical := rfl
set_option maxRecDepth 100000 in
theorem okX3_isLogical : cokMC rX3_isLogical KX3_isLogical = true := cokMC_of [] (fun _ h => absurd h List.not_mem_nil) (by decide +kernel) (by decide +kernel)
def KX3_takesBoth_0 : List RI := [(.iload_n 0, 1, 0, 0, []), (.bipush 22, 2, 0, 0, []), (.if_icmp .lt 13, 3, 0, 16, [])]
def KX3_takesBoth_6 : List RI := [(.iload_n 0, 1, 0, 0, []), (.bipush 26, 2, 0, 0, []), (.if_icmp .gt 7, 3, 0, 16, [])]
def KX3_takesBoth_12 : List RI := [(.iconst 1, 1, 0, 0, []), (.goto 4, 3, 0, 17, [])]
def KX3_takesBoth_16 : List RI := [(.iconst 0, 1, 0, 0, [])]
def KX3_takesBoth_17 : List RI := [(.ireturn, 1, 2, 0, [])]
def KX3_takesBoth : RB := [(0, KX3_takesBoth_0), (6, KX3_takesBoth_6), (12, KX3_takesBoth_12), (16, KX3_takesBoth_16), (17, KX3_takesBoth_17)]
def rX3_takesBoth : CmC := (yX3_takesBoth, cX3_takesBoth, 1, (some .boolean), 1, 4, true)
theorem hX3_takesBoth : mtC[65]? = some rX3_takesBoth := rfl
set_option maxRecDepth 100000 in
theorem okX3_takesBoth : cokMC rX3_takesBoth KX3_takesBoth = true := cokMC_of [] (fun _ h => absurd h List.not_mem_nil) (by decide +kernel) (by decide +kernel)
def KX3_isLeftTaken_0 : List RI := [(.iload_n 0, 1, 0, 0, []), (.invokestatic 227, 3, 1, 64, []), (.ifCond .eq 13, 3, 0, 17, [])]
def KX3_isLeftTaken_7 : List RI := [(.iload_n 1, 1, 0, 1, []), (.ifCond .ne 7, 3, 0, 15, [])]
def KX3_isLeftTaken_11 : List RI := [(.iconst 1, 1, 0, 0, []), (.goto 4, 3, 0, 16, [])]
def KX3_isLeftTaken_15 : List RI := [(.iconst 0, 1, 0, 0, [])]
def KX3_isLeftTaken_16 : List RI := [(.ireturn, 1, 2, 0, [])]
def KX3_isLeftTaken_17 : List RI := [(.iload_n 1, 1, 0, 1, []), (.invokestatic 189, 3, 1, 223, []), (.ifCond .ne 14, 3, 0, 35, [])]
def KX3_isLeftTaken_24 : List RI := [(.iload_n 0, 1, 0, 0, []), (.invokestatic 230, 3, 1, 65, []), (.ifCond .eq 11, 3, 0, 39, [])]
def KX3_isLeftTaken_31 : List RI := [(.iload_n 1, 1, 0, 1, []), (.ifCond .ne 7, 3, 0, 39, [])]
def KX3_isLeftTaken_35 : List RI := [(.iconst 1, 1, 0, 0, []), (.goto 4, 3, 0, 40, [])]
def KX3_isLeftTaken_39 : List RI := [(.iconst 0, 1, 0, 0, [])]
def KX3_isLeftTaken_40 : List RI := [(.ireturn, 1, 2, 0, [])]
def KX3_isLeftTaken : RB := [(0, KX3_isLeftTaken_0), (7, KX3_isLeftTaken_7), (11, KX3_isLeftTaken_11), (15, KX3_isLeftTaken_15), (16, KX3_isLeftTaken_16), (17, KX3_isLeftTaken_17), (24, KX3_isLeftTaken_24), (31, KX3_isLeftTaken_31), (35, KX3_isLeftTaken_35), (39, KX3_isLeftTaken_39), (40, KX3_isLeftTaken_40)]
def rX3_isLeftTaken : CmC := (yX3_isLeftTaken, cX3_isLeftTaken, 2, (some .boolean), 2, 4, true)
theorem hX3_isLeftTaken : mtC[66]? = some rX3_isLeftTaken := rfl
set_option maxRecDepth 100000 in
theorem okX3_isLeftTaken : cokMC rX3_isLeftTaken KX3_isLeftTaken = true := cokMC_of [] (fun _ h => absurd h List.not_mem_nil) (by decide +kernel) (by decide +kernel)
def KX3_isRightTaken_0 : List RI := [(.iload_n 1, 1, 0, 1, []), (.ifCond .ne 15, 3, 0, 16, [])]
def KX3_isRightTaken_4 : List RI := [(.iload_n 2, 1, 0, 2, []), (.ifCond .ne 7, 3, 0, 12, [])]
def KX3_isRightTaken_8 : List RI := [(.iconst 1, 1, 0, 0, []), (.goto 11, 3, 0, 20, [])]
def KX3_isRightTaken_12 : List RI := [(.iconst 0, 1, 0, 0, []), (.goto 7, 3, 0, 20, [])]
def KX3_isRightTaken_16 : List RI := [(.iload_n 2, 1, 0, 2, []), (.invokestatic 189, 3, 1, 223, [])]
def KX3_isRightTaken_20 : List RI := [(.ireturn, 1, 2, 0, [])]
def KX3_isRightTaken : RB := [(0, KX3_isRightTaken_0), (4, KX3_isRightTaken_4), (8, KX3_isRightTaken_8), (12, KX3_isRightTaken_12), (16, KX3_isRightTaken_16), (20, KX3_isRightTaken_20)]
def rX3_isRightTaken : CmC := (yX3_isRightTaken, cX3_isRightTaken, 3, (some .boolean), 3, 4, true)
theorem hX3_isRightTaken : mtC[67]? = some rX3_isRightTaken := rfl
set_option maxRecDepth 100000 in
theorem okX3_isRightTaken : cokMC rX3_isRightTaken KX3_isRightTaken = true := cokMC_of [] (fun _ h => absurd h List.not_mem_nil) (by decide +kernel) (by decide +kernel)
def KX3_workType_0 : List RI := [(.iload_n 1, 1, 0, 1, []), (.ifCond .ne 5, 3, 0, 6, [])]
def KX3_workType_4 : List RI := [(.iconst 0, 1, 0, 0, []), (.ireturn, 1, 1, 0, [])]
def KX3_workType_6 : List RI := [(.iload_n 0, 1, 0, 0, []), (.bipush 31, 2, 0, 0, []), (.if_icmp .lt 14, 3, 0, 23, [])]
def KX3_workType_12 : List RI := [(.iload_n 0, 1, 0, 0, []), (.bipush 33, 2, 0, 0, []), (.if_icmp .gt 8, 3, 0, 23, [])]
def KX3_workType_18 : List RI := [(.iload_n 1, 1, 0, 1, []), (.invokestatic 181, 3, 1, 58, []), (.ireturn, 1, 1, 0, [])]
def KX3_workType_23 : List RI := [(.iload_n 1, 1, 0, 1, []), (.iconst 4, 1, 0, 0, []), (.if_icmp .eq 8, 3, 0, 33, [])]
def KX3_workType_28 : List RI := [(.iload_n 2, 1, 0, 2, []), (.iconst 4, 1, 0, 0, []), (.if_icmp .ne 7, 3, 0, 37, [])]
def KX3_workType_33 : List RI := [(.iconst 4, 1, 0, 0, []), (.goto 4, 3, 0, 38, [])]
def KX3_workType_37 : List RI := [(.iconst 3, 1, 0, 0, [])]
def KX3_workType_38 : List RI := [(.ireturn, 1, 1, 0, [])]
def KX3_workType : RB := [(0, KX3_workType_0), (4, KX3_workType_4), (6, KX3_workType_6), (12, KX3_workType_12), (18, KX3_workType_18), (23, KX3_workType_23), (28, KX3_workType_28), (33, KX3_workType_33), (37, KX3_workType_37), (38, KX3_workType_38)]
def rX3_workType : CmC := (yX3_workType, cX3_workType, 3, (some .int), 3, 4, true)
theorem hX3_workType : mtC[68]? = some rX3_workType := rfl
set_option maxRecDepth 100000 in
theorem okX3_workType : cokMC rX3_workType KX3_workType = true := cokMC_of [] (fun _ h => absurd h List.not_mem_nil) (by decide +kernel) (by decide +kernel)
def KX3_judgeChain_0 : List RI := [(.aload_n 1, 1, 0, 1, []), (.getfield 166, 3, 0, 72, []), (.astore_n 2, 1, 0, 2, []), (.aload_n 1, 1, 0, 1, []), (.getfield 201, 3, 0, 73, []), (.astore_n 3, 1, 0, 3, []), (.aload_n 2, 1, 0, 2, []), (.invokestatic 170, 3, 1, 52, []), (.ifCond .ne 16, 3, 0, 30, [])]
def KX3_judgeChain_17 : List RI := [(.aload_n 0, 1, 0, 0, []), (.aload_n 1, 1, 0, 1, []), (.aload_n 2, 1, 0, 2, []), (.getfield 106, 3, 0, 68, []), (.aload_n 3, 1, 0, 3, []), (.invokevirtual 211, 3, 3, 63, [(0, 0), (0, 0), (0, 0), (0, 0)]), (.ifCond .ne 4, 3, 0, 31, [])]
def KX3_judgeChain_30 : List RI := [(.return_, 1, 0, 0, [])]
def KX3_judgeChain_31 : List RI := [(.aload_n 1, 1, 0, 1, []), (.aload_n 1, 1, 0, 1, []), (.getfield 139, 3, 0, 61, []), (.aload_n 2, 1, 0, 2, []), (.getfield 106, 3, 0, 68, []), (.aload_n 3, 1, 0, 3, []), (.getfield 106, 3, 0, 68, []), (.invokestatic 215, 3, 3, 68, []), (.putfield 178, 3, 0, 69, []), (.aload_n 1, 1, 0, 1, []), (.aload_n 1, 1, 0, 1, []), (.getfield 139, 3, 0, 61, []), (.bipush 25, 2, 0, 0, []), (.if_icmp .lt 16, 3, 0, 73, [])]
def KX3_judgeChain_60 : List RI := [(.aload_n 1, 1, 0, 1, []), (.getfield 139, 3, 0, 61, []), (.bipush 30, 2, 0, 0, []), (.if_icmp .gt 7, 3, 0, 73, [])]
def KX3_judgeChain_69 : List RI := [(.iconst 0, 1, 0, 0, []), (.goto 7, 3, 0, 77, [])]
def KX3_judgeChain_73 : List RI := [(.aload_n 1, 1, 0, 1, []), (.getfield 178, 3, 0, 69, [])]
def KX3_judgeChain_77 : List RI := [(.putfield 106, 3, 0, 68, []), (.aload_n 1, 1, 0, 1, []), (.aload_n 2, 1, 0, 2, []), (.getfield 164, 3, 0, 70, []), (.ifCond .eq 33, 3, 0, 118, [])]
def KX3_judgeChain_88 : List RI := [(.aload_n 3, 1, 0, 3, []), (.getfield 164, 3, 0, 70, []), (.ifCond .eq 26, 3, 0, 118, [])]
def KX3_judgeChain_95 : List RI := [(.aload_n 1, 1, 0, 1, []), (.getfield 139, 3, 0, 61, []), (.invokestatic 233, 3, 1, 227, []), (.ifCond .eq 12, 3, 0, 114, [])]
def KX3_judgeChain_105 : List RI := [(.aload_n 3, 1, 0, 3, []), (.getfield 146, 3, 0, 71, []), (.lconst 0, 1, 0, 0, []), (.lcmp, 1, 0, 0, []), (.ifCond .eq 7, 3, 0, 118, [])]
def KX3_judgeChain_114 : List RI := [(.iconst 1, 1, 0, 0, []), (.goto 4, 3, 0, 119, [])]
def KX3_judgeChain_118 : List RI := [(.iconst 0, 1, 0, 0, [])]
def KX3_judgeChain_119 : List RI := [(.putfield 164, 3, 0, 70, []), (.aload_n 1, 1, 0, 1, []), (.getfield 164, 3, 0, 70, []), (.ifCond .eq 19, 3, 0, 145, [])]
def KX3_judgeChain_129 : List RI := [(.aload_n 1, 1, 0, 1, []), (.aload_n 1, 1, 0, 1, []), (.aload_n 2, 1, 0, 2, []), (.getfield 146, 3, 0, 71, []), (.aload_n 3, 1, 0, 3, []), (.getfield 146, 3, 0, 71, []), (.invokestatic 236, 3, 3, 70, []), (.putfield 146, 3, 0, 71, [])]
def KX3_judgeChain_145 : List RI := [(.return_, 1, 0, 0, [])]
def KX3_judgeChain : RB := [(0, KX3_judgeChain_0), (17, KX3_judgeChain_17), (30, KX3_judgeChain_30), (31, KX3_judgeChain_31), (60, KX3_judgeChain_60), (69, KX3_judgeChain_69), (73, KX3_judgeChain_73), (77, KX3_judgeChain_77), (88, KX3_judgeChain_88), (95, KX3_judgeChain_95), (105, KX3_judgeChain_105), (114, KX3_judgeChain_114), (118, KX3_judgeChain_118), (119, KX3_judgeChain_119), (129, KX3_judgeChain_129), (145, KX3_judgeChain_145)]
def rX3_judgeChain : CmC := (yX3_judgeChain, cX3_judgeChain, 4, none, 1, 4, false)
theorem hX3_judgeChain : mtC[69]? = some rX3_judgeChain := rfl
set_option maxRecDepth 100000 in
theorem okX3_judgeChain : cokMC rX3_judgeChain KX3_judgeChain = true := cokMC_of [] (fun _ h => absurd h List.not_mem_nil) (by decide +kernel) (by decide +kernel)
def KX3_workedChain_0 : List RI := [(.aload_n 0, 1, 0, 0, []), (.getfield 139, 3, 0, 61, []), (.lookupswitch 36 #[(20, 32), (21, 28)], 28, 0, 40, [(20, 36), (21, 32)])]
def KX3_workedChain_32 : List RI := [(.lload_n 1, 1, 0, 1, []), (.lload_n 3, 1, 0, 3, []), (.land, 1, 0, 0, []), (.lreturn, 1, 0, 0, [])]
def KX3_workedChain_36 : List RI := [(.lload_n 1, 1, 0, 1, []), (.lload_n 3, 1, 0, 3, []), (.lor, 1, 0, 0, []), (.lreturn, 1, 0, 0, [])]
def KX3_workedChain_40 : List RI := [(.aload_n 0, 1, 0, 0, []), (.getfield 139, 3, 0, 61, []), (.aload_n 0, 1, 0, 0, []), (.getfield 178, 3, 0, 69, []), (.lload_n 1, 1, 0, 1, []), (.lload_n 3, 1, 0, 3, []), (.invokestatic 240, 3, 4, 229, []), (.lreturn, 1, 0, 0, [])]
def KX3_workedChain : RB := [(0, KX3_workedChain_0), (32, KX3_workedChain_32), (36, KX3_workedChain_36), (40, KX3_workedChain_40)]
def rX3_workedChain : CmC := (yX3_workedChain, cX3_workedChain, 5, (some .long), 3, 4, true)
theorem hX3_workedChain : mtC[70]? = some rX3_workedChain := rfl
set_option maxRecDepth 100000 in
theorem swX3_workedChain_4 : decode cX3_workedChain 4 = .ok (.lookupswitch 36 #[(20, 32), (21, 28)], 28) := by decide +kernel
set_option maxRecDepth 100000 in
theorem okX3_workedChain : cokMC rX3_workedChain KX3_workedChain = true := cokMC_of [(4, .lookupswitch 36 #[(20, 32), (21, 28)], 28)] (fun q hq => by
  obtain rfl := List.mem_singleton.mp hq
  exact swX3_workedChain_4) (by decide +kernel) (by decide +kernel)
def KX3_judgeChoice_0 : List RI := [(.aload_n 1, 1, 0, 1, []), (.getfield 166, 3, 0, 72, []), (.invokestatic 170, 3, 1, 52, []), (.ifCond .ne 119, 3, 0, 126, [])]
def KX3_judgeChoice_10 : List RI := [(.aload_n 0, 1, 0, 0, []), (.aload_n 1, 1, 0, 1, []), (.getfield 166, 3, 0, 72, []), (.getfield 106, 3, 0, 68, []), (.ifCond .ne 7, 3, 0, 25, [])]
def KX3_judgeChoice_21 : List RI := [(.iconst 1, 1, 0, 0, []), (.goto 4, 3, 0, 26, [])]
def KX3_judgeChoice_25 : List RI := [(.iconst 0, 1, 0, 0, [])]
def KX3_judgeChoice_26 : List RI := [(.aload_n 1, 1, 0, 1, []), (.getfield 166, 3, 0, 72, []), (.getfield 149, 3, 0, 62, []), (.invokevirtual 207, 3, 2, 62, [(0, 0), (0, 0), (0, 0), (0, 0)]), (.ifCond .eq 90, 3, 0, 126, [])]
def KX3_judgeChoice_39 : List RI := [(.aload_n 1, 1, 0, 1, []), (.getfield 201, 3, 0, 73, []), (.invokestatic 170, 3, 1, 52, []), (.ifCond .ne 80, 3, 0, 126, [])]
def KX3_judgeChoice_49 : List RI := [(.aload_n 0, 1, 0, 0, []), (.aload_n 1, 1, 0, 1, []), (.getfield 201, 3, 0, 73, []), (.getfield 106, 3, 0, 68, []), (.iconst 5, 1, 0, 0, []), (.if_icmp .eq 7, 3, 0, 65, [])]
def KX3_judgeChoice_61 : List RI := [(.iconst 1, 1, 0, 0, []), (.goto 4, 3, 0, 66, [])]
def KX3_judgeChoice_65 : List RI := [(.iconst 0, 1, 0, 0, [])]
def KX3_judgeChoice_66 : List RI := [(.aload_n 1, 1, 0, 1, []), (.getfield 201, 3, 0, 73, []), (.getfield 149, 3, 0, 62, []), (.invokevirtual 207, 3, 2, 62, [(0, 0), (0, 0), (0, 0), (0, 0)]), (.ifCond .eq 50, 3, 0, 126, [])]
def KX3_judgeChoice_79 : List RI := [(.aload_n 1, 1, 0, 1, []), (.getfield 244, 3, 0, 74, []), (.invokestatic 170, 3, 1, 52, []), (.ifCond .ne 40, 3, 0, 126, [])]
def KX3_judgeChoice_89 : List RI := [(.aload_n 0, 1, 0, 0, []), (.bipush 7, 2, 0, 0, []), (.aload_n 1, 1, 0, 1, []), (.getfield 201, 3, 0, 73, []), (.getfield 106, 3, 0, 68, []), (.aload_n 1, 1, 0, 1, []), (.getfield 244, 3, 0, 74, []), (.getfield 106, 3, 0, 68, []), (.invokestatic 223, 3, 3, 67, []), (.aload_n 1, 1, 0, 1, []), (.getfield 244, 3, 0, 74, []), (.getfield 149, 3, 0, 62, []), (.invokevirtual 207, 3, 2, 62, [(0, 0), (0, 0), (0, 0), (0, 0)]), (.ifCond .eq 7, 3, 0, 126, [])]
def KX3_judgeChoice_122 : List RI := [(.iconst 1, 1, 0, 0, []), (.goto 4, 3, 0, 127, [])]
def KX3_judgeChoice_126 : List RI := [(.iconst 0, 1, 0, 0, [])]
def KX3_judgeChoice_127 : List RI := [(.istore_n 2, 1, 0, 2, []), (.iload_n 2, 1, 0, 2, []), (.ifCond .ne 4, 3, 0, 133, [])]
def KX3_judgeChoice_132 : List RI := [(.return_, 1, 0, 0, [])]
def KX3_judgeChoice_133 : List RI := [(.aload_n 1, 1, 0, 1, []), (.aload_n 1, 1, 0, 1, []), (.getfield 201, 3, 0, 73, []), (.aload_n 1, 1, 0, 1, []), (.getfield 244, 3, 0, 74, []), (.invokestatic 247, 3, 2, 72, []), (.putfield 106, 3, 0, 68, []), (.aload_n 1, 1, 0, 1, []), (.aload_n 1, 1, 0, 1, []), (.getfield 166, 3, 0, 72, []), (.getfield 164, 3, 0, 70, []), (.ifCond .eq 27, 3, 0, 183, [])]
def KX3_judgeChoice_159 : List RI := [(.aload_n 1, 1, 0, 1, []), (.getfield 201, 3, 0, 73, []), (.getfield 164, 3, 0, 70, []), (.ifCond .eq 17, 3, 0, 183, [])]
def KX3_judgeChoice_169 : List RI := [(.aload_n 1, 1, 0, 1, []), (.getfield 244, 3, 0, 74, []), (.getfield 164, 3, 0, 70, []), (.ifCond .eq 7, 3, 0, 183, [])]
def KX3_judgeChoice_179 : List RI := [(.iconst 1, 1, 0, 0, []), (.goto 4, 3, 0, 184, [])]
def KX3_judgeChoice_183 : List RI := [(.iconst 0, 1, 0, 0, [])]
def KX3_judgeChoice_184 : List RI := [(.putfield 164, 3, 0, 70, []), (.aload_n 1, 1, 0, 1, []), (.aload_n 1, 1, 0, 1, []), (.getfield 166, 3, 0, 72, []), (.getfield 146, 3, 0, 71, []), (.lconst 1, 1, 0, 0, []), (.lcmp, 1, 0, 0, []), (.ifCond .ne 13, 3, 0, 210, [])]
def KX3_judgeChoice_200 : List RI := [(.aload_n 1, 1, 0, 1, []), (.getfield 201, 3, 0, 73, []), (.getfield 146, 3, 0, 71, []), (.goto 10, 3, 0, 217, [])]
def KX3_judgeChoice_210 : List RI := [(.aload_n 1, 1, 0, 1, []), (.getfield 244, 3, 0, 74, []), (.getfield 146, 3, 0, 71, [])]
def KX3_judgeChoice_217 : List RI := [(.putfield 146, 3, 0, 71, []), (.return_, 1, 0, 0, [])]
def KX3_judgeChoice : RB := [(0, KX3_judgeChoice_0), (10, KX3_judgeChoice_10), (21, KX3_judgeChoice_21), (25, KX3_judgeChoice_25), (26, KX3_judgeChoice_26), (39, KX3_judgeChoice_39), (49, KX3_judgeChoice_49), (61, KX3_judgeChoice_61), (65, KX3_judgeChoice_65), (66, KX3_judgeChoice_66), (79, KX3_judgeChoice_79), (89, KX3_judgeChoice_89), (122, KX3_judgeChoice_122), (126, KX3_judgeChoice_126), (127, KX3_judgeChoice_127), (132, KX3_judgeChoice_132), (133, KX3_judgeChoice_133), (159, KX3_judgeChoice_159), (169, KX3_judgeChoice_169), (179, KX3_judgeChoice_179), (183, KX3_judgeChoice_183), (184, KX3_judgeChoice_184), (200, KX3_judgeChoice_200), (210, KX3_judgeChoice_210), (217, KX3_judgeChoice_217)]
def rX3_judgeChoice : CmC := (yX3_judgeChoice, cX3_judgeChoice, 3, none, 1, 4, false)
theorem hX3_judgeChoice : mtC[71]? = some rX3_judgeChoice := rfl
set_option maxRecDepth 100000 in
theorem okX3_judgeChoice : cokMC rX3_judgeChoice KX3_judgeChoice = true := cokMC_of [] (fun _ h => absurd h List.not_mem_nil) (by decide +kernel) (by decide +kernel)
def KX3_choiceType_0 : List RI := [(.aload_n 0, 1, 0, 0, []), (.getfield 106, 3, 0, 68, []), (.aload_n 1, 1, 0, 1, []), (.getfield 106, 3, 0, 68, []), (.if_icmp .ne 8, 3, 0, 16, [])]
def KX3_choiceType_11 : List RI := [(.aload_n 0, 1, 0, 0, []), (.getfield 106, 3, 0, 68, []), (.ireturn, 1, 1, 0, [])]
def KX3_choiceType_16 : List RI := [(.aload_n 0, 1, 0, 0, []), (.getfield 106, 3, 0, 68, []), (.invokestatic 251, 3, 1, 73, []), (.ifCond .eq 27, 3, 0, 50, [])]
def KX3_choiceType_26 : List RI := [(.aload_n 1, 1, 0, 1, []), (.getfield 106, 3, 0, 68, []), (.iconst 3, 1, 0, 0, []), (.if_icmp .ne 19, 3, 0, 50, [])]
def KX3_choiceType_34 : List RI := [(.aload_n 1, 1, 0, 1, []), (.aload_n 0, 1, 0, 0, []), (.getfield 106, 3, 0, 68, []), (.invokestatic 254, 3, 2, 74, []), (.ifCond .eq 8, 3, 0, 50, [])]
def KX3_choiceType_45 : List RI := [(.aload_n 0, 1, 0, 0, []), (.getfield 106, 3, 0, 68, []), (.ireturn, 1, 1, 0, [])]
def KX3_choiceType_50 : List RI := [(.aload_n 1, 1, 0, 1, []), (.getfield 106, 3, 0, 68, []), (.invokestatic 251, 3, 1, 73, []), (.ifCond .eq 27, 3, 0, 84, [])]
def KX3_choiceType_60 : List RI := [(.aload_n 0, 1, 0, 0, []), (.getfield 106, 3, 0, 68, []), (.iconst 3, 1, 0, 0, []), (.if_icmp .ne 19, 3, 0, 84, [])]
def KX3_choiceType_68 : List RI := [(.aload_n 0, 1, 0, 0, []), (.aload_n 1, 1, 0, 1, []), (.getfield 106, 3, 0, 68, []), (.invokestatic 254, 3, 2, 74, []), (.ifCond .eq 8, 3, 0, 84, [])]
def KX3_choiceType_79 : List RI := [(.aload_n 1, 1, 0, 1, []), (.getfield 106, 3, 0, 68, []), (.ireturn, 1, 1, 0, [])]
def KX3_choiceType_84 : List RI := [(.aload_n 0, 1, 0, 0, []), (.getfield 106, 3, 0, 68, []), (.iconst 4, 1, 0, 0, []), (.if_icmp .eq 11, 3, 0, 100, [])]
def KX3_choiceType_92 : List RI := [(.aload_n 1, 1, 0, 1, []), (.getfield 106, 3, 0, 68, []), (.iconst 4, 1, 0, 0, []), (.if_icmp .ne 7, 3, 0, 104, [])]
def KX3_choiceType_100 : List RI := [(.iconst 4, 1, 0, 0, []), (.goto 4, 3, 0, 105, [])]
def KX3_choiceType_104 : List RI := [(.iconst 3, 1, 0, 0, [])]
def KX3_choiceType_105 : List RI := [(.ireturn, 1, 1, 0, [])]
def KX3_choiceType : RB := [(0, KX3_choiceType_0), (11, KX3_choiceType_11), (16, KX3_choiceType_16), (26, KX3_choiceType_26), (34, KX3_choiceType_34), (45, KX3_choiceType_45), (50, KX3_choiceType_50), (60, KX3_choiceType_60), (68, KX3_choiceType_68), (79, KX3_choiceType_79), (84, KX3_choiceType_84), (92, KX3_choiceType_92), (100, KX3_choiceType_100), (104, KX3_choiceType_104), (105, KX3_choiceType_105)]
def rX3_choiceType : CmC := (yX3_choiceType, cX3_choiceType, 2, (some .int), 2, 4, true)
theorem hX3_choiceType : mtC[72]? = some rX3_choiceType := rfl
set_option maxRecDepth 100000 in
theorem okX3_choiceType : cokMC rX3_choiceType KX3_choiceType = true := cokMC_of [] (fun _ h => absurd h List.not_mem_nil) (by decide +kernel) (by decide +kernel)
def KX3_isSmall_0 : List RI := [(.iload_n 0, 1, 0, 0, []), (.iconst 1, 1, 0, 0, []), (.if_icmp .eq 8, 3, 0, 10, [])]
def KX3_isSmall_5 : List RI := [(.iload_n 0, 1, 0, 0, []), (.iconst 2, 1, 0, 0, []), (.if_icmp .ne 7, 3, 0, 14, [])]
def KX3_isSmall_10 : List RI := [(.iconst 1, 1, 0, 0, []), (.goto 4, 3, 0, 15, [])]
def KX3_isSmall_14 : List RI := [(.iconst 0, 1, 0, 0, [])]
def KX3_isSmall_15 : List RI := [(.ireturn, 1, 2, 0, [])]
def KX3_isSmall : RB := [(0, KX3_isSmall_0), (5, KX3_isSmall_5), (10, KX3_isSmall_10), (14, KX3_isSmall_14), (15, KX3_isSmall_15)]
def rX3_isSmall : CmC := (yX3_isSmall, cX3_isSmall, 1, (some .boolean), 1, 4, true)
theorem hX3_isSmall : mtC[73]? = some rX3_isSmall := rfl
set_option maxRecDepth 100000 in
theorem okX3_isSmall : cokMC rX3_isSmall KX3_isSmall = true := cokMC_of [] (fun _ h => absurd h List.not_mem_nil) (by decide +kernel) (by decide +kernel)
def KX3_isHeld_0 : List RI := [(.aload_n 0, 1, 0, 0, []), (.getfield 164, 3, 0, 70, []), (.ifCond .eq 23, 3, 0, 27, [])]
def KX3_isHeld_7 : List RI := [(.iload_n 1, 1, 0, 1, []), (.aload_n 0, 1, 0, 0, []), (.getfield 146, 3, 0, 71, []), (.invokestatic 152, 3, 2, 228, []), (.aload_n 0, 1, 0, 0, []), (.getfield 146, 3, 0, 71, []), (.lcmp, 1, 0, 0, []), (.ifCond .ne 7, 3, 0, 27, [])]
def KX3_isHeld_23 : List RI := [(.iconst 1, 1, 0, 0, []), (.goto 4, 3, 0, 28, [])]
def KX3_isHeld_27 : List RI := [(.iconst 0, 1, 0, 0, [])]
def KX3_isHeld_28 : List RI := [(.ireturn, 1, 2, 0, [])]
def KX3_isHeld : RB := [(0, KX3_isHeld_0), (7, KX3_isHeld_7), (23, KX3_isHeld_23), (27, KX3_isHeld_27), (28, KX3_isHeld_28)]
def rX3_isHeld : CmC := (yX3_isHeld, cX3_isHeld, 2, (some .boolean), 2, 4, true)
theorem hX3_isHeld : mtC[74]? = some rX3_isHeld := rfl
set_option maxRecDepth 100000 in
theorem okX3_isHeld : cokMC rX3_isHeld KX3_isHeld = true := cokMC_of [] (fun _ h => absurd h List.not_mem_nil) (by decide +kernel) (by decide +kernel)
def KX3_fits_0 : List RI := [(.aload_n 0, 1, 0, 0, []), (.getfield 106, 3, 0, 68, []), (.iload_n 1, 1, 0, 1, []), (.invokestatic 257, 3, 2, 224, []), (.ifCond .eq 5, 3, 0, 13, [])]
def KX3_fits_11 : List RI := [(.iconst 1, 1, 0, 0, []), (.ireturn, 1, 2, 0, [])]
def KX3_fits_13 : List RI := [(.iload_n 1, 1, 0, 1, []), (.invokestatic 251, 3, 1, 73, []), (.ifCond .eq 33, 3, 0, 50, [])]
def KX3_fits_20 : List RI := [(.aload_n 0, 1, 0, 0, []), (.getfield 106, 3, 0, 68, []), (.invokestatic 251, 3, 1, 73, []), (.ifCond .ne 11, 3, 0, 38, [])]
def KX3_fits_30 : List RI := [(.aload_n 0, 1, 0, 0, []), (.getfield 106, 3, 0, 68, []), (.iconst 3, 1, 0, 0, []), (.if_icmp .ne 15, 3, 0, 50, [])]
def KX3_fits_38 : List RI := [(.aload_n 0, 1, 0, 0, []), (.iload_n 1, 1, 0, 1, []), (.invokestatic 254, 3, 2, 74, []), (.ifCond .eq 7, 3, 0, 50, [])]
def KX3_fits_46 : List RI := [(.iconst 1, 1, 0, 0, []), (.goto 4, 3, 0, 51, [])]
def KX3_fits_50 : List RI := [(.iconst 0, 1, 0, 0, [])]
def KX3_fits_51 : List RI := [(.ireturn, 1, 2, 0, [])]
def KX3_fits : RB := [(0, KX3_fits_0), (11, KX3_fits_11), (13, KX3_fits_13), (20, KX3_fits_20), (30, KX3_fits_30), (38, KX3_fits_38), (46, KX3_fits_46), (50, KX3_fits_50), (51, KX3_fits_51)]
def rX3_fits : CmC := (yX3_fits, cX3_fits, 2, (some .boolean), 2, 4, true)
theorem hX3_fits : mtC[75]? = some rX3_fits := rfl
set_option maxRecDepth 100000 in
theorem okX3_fits : cokMC rX3_fits KX3_fits = true := cokMC_of [] (fun _ h => absurd h List.not_mem_nil) (by decide +kernel) (by decide +kernel)
def KX3_judgeCall_0 : List RI := [(.iconst 0, 1, 0, 0, []), (.istore_n 2, 1, 0, 2, []), (.iconst 1, 1, 0, 0, []), (.istore_n 3, 1, 0, 3, []), (.aload_n 1, 1, 0, 1, []), (.getfield 166, 3, 0, 72, []), (.astore 4, 2, 0, 0, [])]
def KX3_judgeCall_10 : List RI := [(.aload 4, 2, 0, 0, []), (.ifnull 58, 3, 0, 70, [])]
def KX3_judgeCall_15 : List RI := [(.iload_n 3, 1, 0, 3, []), (.aload 4, 2, 0, 0, []), (.invokestatic 170, 3, 1, 52, []), (.ifCond .ne 33, 3, 0, 54, [])]
def KX3_judgeCall_24 : List RI := [(.aload_n 0, 1, 0, 0, []), (.aload 4, 2, 0, 0, []), (.getfield 106, 3, 0, 68, []), (.iconst 5, 1, 0, 0, []), (.if_icmp .eq 7, 3, 0, 38, [])]
def KX3_judgeCall_34 : List RI := [(.iconst 1, 1, 0, 0, []), (.goto 4, 3, 0, 39, [])]
def KX3_judgeCall_38 : List RI := [(.iconst 0, 1, 0, 0, [])]
def KX3_judgeCall_39 : List RI := [(.aload 4, 2, 0, 0, []), (.getfield 149, 3, 0, 62, []), (.invokevirtual 207, 3, 2, 62, [(0, 0), (0, 0), (0, 0), (0, 0)]), (.ifCond .eq 7, 3, 0, 54, [])]
def KX3_judgeCall_50 : List RI := [(.iconst 1, 1, 0, 0, []), (.goto 4, 3, 0, 55, [])]
def KX3_judgeCall_54 : List RI := [(.iconst 0, 1, 0, 0, [])]
def KX3_judgeCall_55 : List RI := [(.iand, 1, 0, 0, []), (.istore_n 3, 1, 0, 3, []), (.iinc 2 1, 3, 0, 0, []), (.aload 4, 2, 0, 0, []), (.getfield 260, 3, 0, 75, []), (.astore 4, 2, 0, 0, []), (.goto (-57), 3, 0, 10, [])]
def KX3_judgeCall_70 : List RI := [(.iload_n 3, 1, 0, 3, []), (.ifCond .ne 4, 3, 0, 75, [])]
def KX3_judgeCall_74 : List RI := [(.return_, 1, 0, 0, [])]
def KX3_judgeCall_75 : List RI := [(.aload_n 1, 1, 0, 1, []), (.aload_n 0, 1, 0, 0, []), (.aload_n 1, 1, 0, 1, []), (.iload_n 2, 1, 0, 2, []), (.invokevirtual 263, 3, 2, 77, [(0, 0), (0, 0), (0, 0), (0, 0)]), (.putfield 103, 3, 0, 67, []), (.aload_n 0, 1, 0, 0, []), (.getfield 9, 3, 0, 121, []), (.aload_n 1, 1, 0, 1, []), (.getfield 103, 3, 0, 67, []), (.invokevirtual 90, 3, 1, 119, [(0, 0), (0, 0), (0, 0), (0, 0), (0, 0), (0, 0), (0, 0)]), (.astore 4, 2, 0, 0, []), (.aload 4, 2, 0, 0, []), (.ifnonnull 17, 3, 0, 117, [])]
def KX3_judgeCall_103 : List RI := [(.aload_n 0, 1, 0, 0, []), (.getfield 9, 3, 0, 121, []), (.bipush 6, 2, 0, 0, []), (.aload_n 1, 1, 0, 1, []), (.getfield 149, 3, 0, 62, []), (.invokevirtual 57, 3, 2, 118, [(0, 0), (0, 0), (0, 0), (0, 0), (0, 0), (0, 0), (0, 0)]), (.return_, 1, 0, 0, [])]
def KX3_judgeCall_117 : List RI := [(.aload_n 1, 1, 0, 1, []), (.aload 4, 2, 0, 0, []), (.getfield 267, 3, 0, 182, []), (.putfield 106, 3, 0, 68, []), (.aload_n 0, 1, 0, 0, []), (.getfield 9, 3, 0, 121, []), (.getfield 268, 3, 0, 210, []), (.getfield 272, 3, 0, 303, []), (.aload_n 1, 1, 0, 1, []), (.getfield 149, 3, 0, 62, []), (.bipush 100, 2, 0, 0, []), (.aload_n 1, 1, 0, 1, []), (.getfield 103, 3, 0, 67, []), (.iadd, 1, 0, 0, []), (.iastore, 1, 0, 0, []), (.return_, 1, 0, 0, [])]
def KX3_judgeCall : RB := [(0, KX3_judgeCall_0), (10, KX3_judgeCall_10), (15, KX3_judgeCall_15), (24, KX3_judgeCall_24), (34, KX3_judgeCall_34), (38, KX3_judgeCall_38), (39, KX3_judgeCall_39), (50, KX3_judgeCall_50), (54, KX3_judgeCall_54), (55, KX3_judgeCall_55), (70, KX3_judgeCall_70), (74, KX3_judgeCall_74), (75, KX3_judgeCall_75), (103, KX3_judgeCall_103), (117, KX3_judgeCall_117)]
def rX3_judgeCall : CmC := (yX3_judgeCall, cX3_judgeCall, 5, none, 1, 4, false)
theorem hX3_judgeCall : mtC[76]? = some rX3_judgeCall := rfl
set_option maxRecDepth 100000 in
theorem okX3_judgeCall : cokMC rX3_judgeCall KX3_judgeCall = true := cokMC_of [] (fun _ h => absurd h List.not_mem_nil) (by decide +kernel) (by decide +kernel)
def KX3_calledMethod_0 : List RI := [(.aload_n 0, 1, 0, 0, []), (.getfield 9, 3, 0, 121, []), (.getfield 268, 3, 0, 210, []), (.getfield 278, 3, 0, 304, []), (.aload_n 1, 1, 0, 1, []), (.getfield 149, 3, 0, 62, []), (.laload, 1, 0, 0, []), (.lstore_n 3, 1, 0, 3, []), (.iconst 0, 1, 0, 0, []), (.istore 5, 2, 0, 0, [])]
def KX3_calledMethod_19 : List RI := [(.iload 5, 2, 0, 0, []), (.bipush 11, 2, 0, 0, []), (.if_icmp .gt 67, 3, 0, 90, [])]
def KX3_calledMethod_26 : List RI := [(.iload 5, 2, 0, 0, []), (.bipush 10, 2, 0, 0, []), (.iadd, 1, 0, 0, []), (.bipush 12, 2, 0, 0, []), (.irem, 1, 0, 0, []), (.istore 6, 2, 0, 0, []), (.aload_n 0, 1, 0, 0, []), (.getfield 9, 3, 0, 121, []), (.iload 6, 2, 0, 0, []), (.invokevirtual 90, 3, 1, 119, [(0, 0), (0, 0), (0, 0), (0, 0), (0, 0), (0, 0), (0, 0)]), (.astore 7, 2, 0, 0, []), (.aload 7, 2, 0, 0, []), (.ifnull 35, 3, 0, 84, [])]
def KX3_calledMethod_52 : List RI := [(.aload 7, 2, 0, 0, []), (.lload_n 3, 1, 0, 3, []), (.iload_n 2, 1, 0, 2, []), (.aload_n 1, 1, 0, 1, []), (.getfield 166, 3, 0, 72, []), (.invokevirtual 282, 3, 3, 115, [(0, 0), (0, 0), (0, 0), (0, 0), (0, 0), (0, 0)]), (.ifCond .eq 21, 3, 0, 84, [])]
def KX3_calledMethod_66 : List RI := [(.aload_n 0, 1, 0, 0, []), (.aload 7, 2, 0, 0, []), (.lload_n 3, 1, 0, 3, []), (.iload_n 2, 1, 0, 2, []), (.aload_n 1, 1, 0, 1, []), (.getfield 166, 3, 0, 72, []), (.invokevirtual 286, 3, 4, 78, [(0, 0), (0, 0), (0, 0), (0, 0)]), (.ifCond .eq 6, 3, 0, 84, [])]
def KX3_calledMethod_81 : List RI := [(.iload 6, 2, 0, 0, []), (.ireturn, 1, 1, 0, [])]
def KX3_calledMethod_84 : List RI := [(.iinc 5 1, 3, 0, 0, []), (.goto (-68), 3, 0, 19, [])]
def KX3_calledMethod_90 : List RI := [(.iconst (-1), 1, 0, 0, []), (.ireturn, 1, 1, 0, [])]
def KX3_calledMethod : RB := [(0, KX3_calledMethod_0), (19, KX3_calledMethod_19), (26, KX3_calledMethod_26), (52, KX3_calledMethod_52), (66, KX3_calledMethod_66), (81, KX3_calledMethod_81), (84, KX3_calledMethod_84), (90, KX3_calledMethod_90)]
def rX3_calledMethod : CmC := (yX3_calledMethod, cX3_calledMethod, 8, (some .int), 2, 4, false)
theorem hX3_calledMethod : mtC[77]? = some rX3_calledMethod := rfl
set_option maxRecDepth 100000 in
theorem okX3_calledMethod : cokMC rX3_calledMethod KX3_calledMethod = true := cokMC_of [] (fun _ h => absurd h List.not_mem_nil) (by decide +kernel) (by decide +kernel)
def KX3_isNarrowest_0 : List RI := [(.iconst 0, 1, 0, 0, []), (.istore 6, 2, 0, 0, [])]
def KX3_isNarrowest_3 : List RI := [(.iload 6, 2, 0, 0, []), (.bipush 11, 2, 0, 0, []), (.if_icmp .gt 49, 3, 0, 56, [])]
def KX3_isNarrowest_10 : List RI := [(.aload_n 0, 1, 0, 0, []), (.getfield 9, 3, 0, 121, []), (.iload 6, 2, 0, 0, []), (.invokevirtual 90, 3, 1, 119, [(0, 0), (0, 0), (0, 0), (0, 0), (0, 0), (0, 0), (0, 0)]), (.astore 7, 2, 0, 0, []), (.aload 7, 2, 0, 0, []), (.ifnull 27, 3, 0, 50, [])]
def KX3_isNarrowest_26 : List RI := [(.aload 7, 2, 0, 0, []), (.lload_n 2, 1, 0, 2, []), (.iload 4, 2, 0, 0, []), (.aload 5, 2, 0, 0, []), (.invokevirtual 282, 3, 3, 115, [(0, 0), (0, 0), (0, 0), (0, 0), (0, 0), (0, 0)]), (.ifCond .eq 14, 3, 0, 50, [])]
def KX3_isNarrowest_39 : List RI := [(.aload_n 1, 1, 0, 1, []), (.aload 7, 2, 0, 0, []), (.invokevirtual 290, 3, 1, 114, [(0, 0), (0, 0), (0, 0), (0, 0), (0, 0), (0, 0)]), (.ifCond .ne 5, 3, 0, 50, [])]
def KX3_isNarrowest_48 : List RI := [(.iconst 0, 1, 0, 0, []), (.ireturn, 1, 2, 0, [])]
def KX3_isNarrowest_50 : List RI := [(.iinc 6 1, 3, 0, 0, []), (.goto (-50), 3, 0, 3, [])]
def KX3_isNarrowest_56 : List RI := [(.iconst 1, 1, 0, 0, []), (.ireturn, 1, 2, 0, [])]
def KX3_isNarrowest : RB := [(0, KX3_isNarrowest_0), (3, KX3_isNarrowest_3), (10, KX3_isNarrowest_10), (26, KX3_isNarrowest_26), (39, KX3_isNarrowest_39), (48, KX3_isNarrowest_48), (50, KX3_isNarrowest_50), (56, KX3_isNarrowest_56)]
def rX3_isNarrowest : CmC := (yX3_isNarrowest, cX3_isNarrowest, 8, (some .boolean), 4, 4, false)
theorem hX3_isNarrowest : mtC[78]? = some rX3_isNarrowest := rfl
set_option maxRecDepth 100000 in
theorem okX3_isNarrowest : cokMC rX3_isNarrowest KX3_isNarrowest = true := cokMC_of [] (fun _ h => absurd h List.not_mem_nil) (by decide +kernel) (by decide +kernel)
def KX3_judgeStore_0 : List RI := [(.aload_n 0, 1, 0, 0, []), (.aload_n 1, 1, 0, 1, []), (.invokevirtual 156, 3, 1, 51, [(0, 0), (0, 0), (0, 0), (0, 0)]), (.astore_n 2, 1, 0, 2, []), (.aload_n 2, 1, 0, 2, []), (.ifnull 38, 3, 0, 45, [])]
def KX3_judgeStore_10 : List RI := [(.aload_n 1, 1, 0, 1, []), (.getfield 166, 3, 0, 72, []), (.invokestatic 170, 3, 1, 52, []), (.ifCond .ne 28, 3, 0, 45, [])]
def KX3_judgeStore_20 : List RI := [(.aload_n 0, 1, 0, 0, []), (.aload_n 1, 1, 0, 1, []), (.getfield 166, 3, 0, 72, []), (.aload_n 2, 1, 0, 2, []), (.getfield 160, 3, 0, 331, []), (.invokestatic 204, 3, 2, 75, []), (.aload_n 1, 1, 0, 1, []), (.getfield 166, 3, 0, 72, []), (.getfield 149, 3, 0, 62, []), (.invokevirtual 207, 3, 2, 62, [(0, 0), (0, 0), (0, 0), (0, 0)]), (.ifCond .ne 4, 3, 0, 46, [])]
def KX3_judgeStore_45 : List RI := [(.return_, 1, 0, 0, [])]
def KX3_judgeStore_46 : List RI := [(.aload_n 2, 1, 0, 2, []), (.aload_n 2, 1, 0, 2, []), (.getfield 194, 3, 0, 332, []), (.ifCond .eq 17, 3, 0, 68, [])]
def KX3_judgeStore_54 : List RI := [(.aload_n 1, 1, 0, 1, []), (.getfield 166, 3, 0, 72, []), (.getfield 164, 3, 0, 70, []), (.ifCond .eq 7, 3, 0, 68, [])]
def KX3_judgeStore_64 : List RI := [(.iconst 1, 1, 0, 0, []), (.goto 4, 3, 0, 69, [])]
def KX3_judgeStore_68 : List RI := [(.iconst 0, 1, 0, 0, [])]
def KX3_judgeStore_69 : List RI := [(.putfield 161, 3, 0, 335, []), (.aload_n 2, 1, 0, 2, []), (.aload_n 1, 1, 0, 1, []), (.getfield 166, 3, 0, 72, []), (.getfield 146, 3, 0, 71, []), (.putfield 165, 3, 0, 336, []), (.return_, 1, 0, 0, [])]
def KX3_judgeStore : RB := [(0, KX3_judgeStore_0), (10, KX3_judgeStore_10), (20, KX3_judgeStore_20), (45, KX3_judgeStore_45), (46, KX3_judgeStore_46), (54, KX3_judgeStore_54), (64, KX3_judgeStore_64), (68, KX3_judgeStore_68), (69, KX3_judgeStore_69)]
def rX3_judgeStore : CmC := (yX3_judgeStore, cX3_judgeStore, 3, none, 1, 4, false)
theorem hX3_judgeStore : mtC[79]? = some rX3_judgeStore := rfl
set_option maxRecDepth 100000 in
theorem okX3_judgeStore : cokMC rX3_judgeStore KX3_judgeStore = true := cokMC_of [] (fun _ h => absurd h List.not_mem_nil) (by decide +kernel) (by decide +kernel)

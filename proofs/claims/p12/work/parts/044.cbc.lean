def KX3_judgeStatement_0 : List RI := [(.aload_n 1, 1, 0, 1, []), (.getfield 293, 3, 0, 270, []), (.lookupswitch 249 #[(6, 205), (56, 108), (58, 108), (59, 108), (60, 108), (61, 148), (64, 156), (65, 156), (66, 164), (67, 172), (90, 213), (94, 213)], 108, 0, 253, [(6, 209), (56, 112), (58, 112), (59, 112), (60, 112), (61, 152), (64, 160), (65, 160), (66, 168), (67, 176), (90, 217), (94, 217)])]
def KX3_judgeStatement_112 : List RI := [(.aload_n 1, 1, 0, 1, []), (.getfield 294, 3, 0, 279, []), (.invokestatic 170, 3, 1, 52, []), (.ifCond .ne 134, 3, 0, 253, [])]
def KX3_judgeStatement_122 : List RI := [(.aload_n 0, 1, 0, 0, []), (.aload_n 1, 1, 0, 1, []), (.getfield 294, 3, 0, 279, []), (.getfield 106, 3, 0, 68, []), (.ifCond .ne 7, 3, 0, 137, [])]
def KX3_judgeStatement_133 : List RI := [(.iconst 1, 1, 0, 0, []), (.goto 4, 3, 0, 138, [])]
def KX3_judgeStatement_137 : List RI := [(.iconst 0, 1, 0, 0, [])]
def KX3_judgeStatement_138 : List RI := [(.aload_n 1, 1, 0, 1, []), (.getfield 294, 3, 0, 279, []), (.getfield 149, 3, 0, 62, []), (.invokevirtual 207, 3, 2, 62, [(0, 0), (0, 0), (0, 0), (0, 0)]), (.pop, 1, 0, 0, []), (.goto 104, 3, 0, 253, [])]
def KX3_judgeStatement_152 : List RI := [(.aload_n 0, 1, 0, 0, []), (.aload_n 1, 1, 0, 1, []), (.invokevirtual 297, 3, 1, 81, [(0, 0), (0, 0), (0, 0), (0, 0)]), (.goto 96, 3, 0, 253, [])]
def KX3_judgeStatement_160 : List RI := [(.aload_n 0, 1, 0, 0, []), (.aload_n 1, 1, 0, 1, []), (.invokevirtual 300, 3, 1, 83, [(0, 0), (0, 0), (0, 0), (0, 0)]), (.goto 88, 3, 0, 253, [])]
def KX3_judgeStatement_168 : List RI := [(.aload_n 0, 1, 0, 0, []), (.aload_n 1, 1, 0, 1, []), (.invokevirtual 303, 3, 1, 86, [(0, 0), (0, 0), (0, 0), (0, 0)]), (.goto 80, 3, 0, 253, [])]
def KX3_judgeStatement_176 : List RI := [(.aload_n 1, 1, 0, 1, []), (.getfield 294, 3, 0, 279, []), (.invokestatic 170, 3, 1, 52, []), (.ifCond .ne 70, 3, 0, 253, [])]
def KX3_judgeStatement_186 : List RI := [(.aload_n 0, 1, 0, 0, []), (.aload_n 1, 1, 0, 1, []), (.getfield 294, 3, 0, 279, []), (.iconst 3, 1, 0, 0, []), (.invokestatic 204, 3, 2, 75, []), (.aload_n 1, 1, 0, 1, []), (.getfield 294, 3, 0, 279, []), (.getfield 149, 3, 0, 62, []), (.invokevirtual 207, 3, 2, 62, [(0, 0), (0, 0), (0, 0), (0, 0)]), (.pop, 1, 0, 0, []), (.goto 47, 3, 0, 253, [])]
def KX3_judgeStatement_209 : List RI := [(.aload_n 0, 1, 0, 0, []), (.aload_n 1, 1, 0, 1, []), (.invokevirtual 306, 3, 1, 85, [(0, 0), (0, 0), (0, 0), (0, 0)]), (.goto 39, 3, 0, 253, [])]
def KX3_judgeStatement_217 : List RI := [(.aload_n 1, 1, 0, 1, []), (.getfield 294, 3, 0, 279, []), (.ifnull 32, 3, 0, 253, [])]
def KX3_judgeStatement_224 : List RI := [(.aload_n 1, 1, 0, 1, []), (.getfield 294, 3, 0, 279, []), (.invokevirtual 309, 3, 0, 18, [(0, 0), (0, 0)]), (.ifCond .ne 22, 3, 0, 253, [])]
def KX3_judgeStatement_234 : List RI := [(.aload_n 0, 1, 0, 0, []), (.getfield 9, 3, 0, 121, []), (.bipush 12, 2, 0, 0, []), (.aload_n 1, 1, 0, 1, []), (.getfield 294, 3, 0, 279, []), (.getfield 149, 3, 0, 62, []), (.invokevirtual 57, 3, 2, 118, [(0, 0), (0, 0), (0, 0), (0, 0), (0, 0), (0, 0), (0, 0)]), (.goto 3, 3, 0, 253, [])]
def KX3_judgeStatement_253 : List RI := [(.return_, 1, 0, 0, [])]
def KX3_judgeStatement : RB := [(0, KX3_judgeStatement_0), (112, KX3_judgeStatement_112), (122, KX3_judgeStatement_122), (133, KX3_judgeStatement_133), (137, KX3_judgeStatement_137), (138, KX3_judgeStatement_138), (152, KX3_judgeStatement_152), (160, KX3_judgeStatement_160), (168, KX3_judgeStatement_168), (176, KX3_judgeStatement_176), (186, KX3_judgeStatement_186), (209, KX3_judgeStatement_209), (217, KX3_judgeStatement_217), (224, KX3_judgeStatement_224), (234, KX3_judgeStatement_234), (253, KX3_judgeStatement_253)]
def rX3_judgeStatement : CmC := (yX3_judgeStatement, cX3_judgeStatement, 2, none, 1, 4, false)
theorem hX3_judgeStatement : mtC[80]? = some rX3_judgeStatement := rfl
set_option maxRecDepth 100000 in
theorem swX3_judgeStatement_4 : decode cX3_judgeStatement 4 = .ok (.lookupswitch 249 #[(6, 205), (56, 108), (58, 108), (59, 108), (60, 108), (61, 148), (64, 156), (65, 156), (66, 164), (67, 172), (90, 213), (94, 213)], 108) := by decide +kernel
set_option maxRecDepth 100000 in
theorem okX3_judgeStatement : cokMC rX3_judgeStatement KX3_judgeStatement = true := cokMC_of [(4, .lookupswitch 249 #[(6, 205), (56, 108), (58, 108), (59, 108), (60, 108), (61, 148), (64, 156), (65, 156), (66, 164), (67, 172), (90, 213), (94, 213)], 108)] (fun q hq => by
  obtain rfl := List.mem_singleton.mp hq
  exact swX3_judgeStatement_4) (by decide +kernel) (by decide +kernel)
def KX3_judgeSwitch_0 : List RI := [(.aload_n 1, 1, 0, 1, []), (.getfield 294, 3, 0, 279, []), (.invokestatic 170, 3, 1, 52, []), (.ifCond .eq 4, 3, 0, 11, [])]
def KX3_judgeSwitch_10 : List RI := [(.return_, 1, 0, 0, [])]
def KX3_judgeSwitch_11 : List RI := [(.aload_n 1, 1, 0, 1, []), (.getfield 294, 3, 0, 279, []), (.getfield 106, 3, 0, 68, []), (.istore_n 2, 1, 0, 2, []), (.aload_n 0, 1, 0, 0, []), (.iload_n 2, 1, 0, 2, []), (.iconst 1, 1, 0, 0, []), (.if_icmp .eq 13, 3, 0, 35, [])]
def KX3_judgeSwitch_25 : List RI := [(.iload_n 2, 1, 0, 2, []), (.iconst 2, 1, 0, 0, []), (.if_icmp .eq 8, 3, 0, 35, [])]
def KX3_judgeSwitch_30 : List RI := [(.iload_n 2, 1, 0, 2, []), (.iconst 3, 1, 0, 0, []), (.if_icmp .ne 7, 3, 0, 39, [])]
def KX3_judgeSwitch_35 : List RI := [(.iconst 1, 1, 0, 0, []), (.goto 4, 3, 0, 40, [])]
def KX3_judgeSwitch_39 : List RI := [(.iconst 0, 1, 0, 0, [])]
def KX3_judgeSwitch_40 : List RI := [(.aload_n 1, 1, 0, 1, []), (.getfield 294, 3, 0, 279, []), (.getfield 149, 3, 0, 62, []), (.invokevirtual 207, 3, 2, 62, [(0, 0), (0, 0), (0, 0), (0, 0)]), (.pop, 1, 0, 0, []), (.iconst 0, 1, 0, 0, []), (.istore_n 3, 1, 0, 3, []), (.aload_n 1, 1, 0, 1, []), (.getfield 313, 3, 0, 276, []), (.astore 4, 2, 0, 0, [])]
def KX3_judgeSwitch_59 : List RI := [(.aload 4, 2, 0, 0, []), (.ifnull 63, 3, 0, 124, [])]
def KX3_judgeSwitch_64 : List RI := [(.aload 4, 2, 0, 0, []), (.getfield 293, 3, 0, 270, []), (.bipush 62, 2, 0, 0, []), (.if_icmp .ne 13, 3, 0, 84, [])]
def KX3_judgeSwitch_74 : List RI := [(.aload_n 0, 1, 0, 0, []), (.aload_n 1, 1, 0, 1, []), (.aload 4, 2, 0, 0, []), (.invokevirtual 317, 3, 2, 82, [(0, 0), (0, 0), (0, 0), (0, 0)]), (.goto 33, 3, 0, 114, [])]
def KX3_judgeSwitch_84 : List RI := [(.aload 4, 2, 0, 0, []), (.getfield 293, 3, 0, 270, []), (.bipush 63, 2, 0, 0, []), (.if_icmp .ne 23, 3, 0, 114, [])]
def KX3_judgeSwitch_94 : List RI := [(.iload_n 3, 1, 0, 3, []), (.ifCond .eq 17, 3, 0, 112, [])]
def KX3_judgeSwitch_98 : List RI := [(.aload_n 0, 1, 0, 0, []), (.getfield 9, 3, 0, 121, []), (.bipush 8, 2, 0, 0, []), (.aload 4, 2, 0, 0, []), (.getfield 321, 3, 0, 271, []), (.invokevirtual 57, 3, 2, 118, [(0, 0), (0, 0), (0, 0), (0, 0), (0, 0), (0, 0), (0, 0)])]
def KX3_judgeSwitch_112 : List RI := [(.iconst 1, 1, 0, 0, []), (.istore_n 3, 1, 0, 3, [])]
def KX3_judgeSwitch_114 : List RI := [(.aload 4, 2, 0, 0, []), (.getfield 322, 3, 0, 275, []), (.astore 4, 2, 0, 0, []), (.goto (-62), 3, 0, 59, [])]
def KX3_judgeSwitch_124 : List RI := [(.return_, 1, 0, 0, [])]
def KX3_judgeSwitch : RB := [(0, KX3_judgeSwitch_0), (10, KX3_judgeSwitch_10), (11, KX3_judgeSwitch_11), (25, KX3_judgeSwitch_25), (30, KX3_judgeSwitch_30), (35, KX3_judgeSwitch_35), (39, KX3_judgeSwitch_39), (40, KX3_judgeSwitch_40), (59, KX3_judgeSwitch_59), (64, KX3_judgeSwitch_64), (74, KX3_judgeSwitch_74), (84, KX3_judgeSwitch_84), (94, KX3_judgeSwitch_94), (98, KX3_judgeSwitch_98), (112, KX3_judgeSwitch_112), (114, KX3_judgeSwitch_114), (124, KX3_judgeSwitch_124)]
def rX3_judgeSwitch : CmC := (yX3_judgeSwitch, cX3_judgeSwitch, 5, none, 1, 4, false)
theorem hX3_judgeSwitch : mtC[81]? = some rX3_judgeSwitch := rfl
set_option maxRecDepth 100000 in
theorem okX3_judgeSwitch : cokMC rX3_judgeSwitch KX3_judgeSwitch = true := cokMC_of [] (fun _ h => absurd h List.not_mem_nil) (by decide +kernel) (by decide +kernel)
def KX3_judgeCase_0 : List RI := [(.aload_n 2, 1, 0, 2, []), (.getfield 294, 3, 0, 279, []), (.invokestatic 170, 3, 1, 52, []), (.ifCond .eq 4, 3, 0, 11, [])]
def KX3_judgeCase_10 : List RI := [(.return_, 1, 0, 0, [])]
def KX3_judgeCase_11 : List RI := [(.aload_n 2, 1, 0, 2, []), (.getfield 294, 3, 0, 279, []), (.getfield 164, 3, 0, 70, []), (.ifCond .eq 24, 3, 0, 42, [])]
def KX3_judgeCase_21 : List RI := [(.aload_n 2, 1, 0, 2, []), (.getfield 294, 3, 0, 279, []), (.aload_n 1, 1, 0, 1, []), (.getfield 294, 3, 0, 279, []), (.getfield 106, 3, 0, 68, []), (.invokestatic 204, 3, 2, 75, []), (.ifCond .eq 7, 3, 0, 42, [])]
def KX3_judgeCase_38 : List RI := [(.iconst 1, 1, 0, 0, []), (.goto 4, 3, 0, 43, [])]
def KX3_judgeCase_42 : List RI := [(.iconst 0, 1, 0, 0, [])]
def KX3_judgeCase_43 : List RI := [(.istore_n 3, 1, 0, 3, []), (.aload_n 1, 1, 0, 1, []), (.getfield 313, 3, 0, 276, []), (.astore 4, 2, 0, 0, [])]
def KX3_judgeCase_50 : List RI := [(.aload 4, 2, 0, 0, []), (.ifnull 72, 3, 0, 124, [])]
def KX3_judgeCase_55 : List RI := [(.aload 4, 2, 0, 0, []), (.aload_n 2, 1, 0, 2, []), (.if_acmp .eq 66, 3, 0, 124, [])]
def KX3_judgeCase_61 : List RI := [(.aload 4, 2, 0, 0, []), (.getfield 293, 3, 0, 270, []), (.bipush 62, 2, 0, 0, []), (.if_icmp .ne 46, 3, 0, 114, [])]
def KX3_judgeCase_71 : List RI := [(.aload 4, 2, 0, 0, []), (.getfield 294, 3, 0, 279, []), (.invokestatic 170, 3, 1, 52, []), (.ifCond .ne 35, 3, 0, 114, [])]
def KX3_judgeCase_82 : List RI := [(.aload 4, 2, 0, 0, []), (.getfield 294, 3, 0, 279, []), (.getfield 164, 3, 0, 70, []), (.ifCond .eq 24, 3, 0, 114, [])]
def KX3_judgeCase_93 : List RI := [(.aload 4, 2, 0, 0, []), (.getfield 294, 3, 0, 279, []), (.getfield 146, 3, 0, 71, []), (.aload_n 2, 1, 0, 2, []), (.getfield 294, 3, 0, 279, []), (.getfield 146, 3, 0, 71, []), (.lcmp, 1, 0, 0, []), (.ifCond .ne 5, 3, 0, 114, [])]
def KX3_judgeCase_112 : List RI := [(.iconst 0, 1, 0, 0, []), (.istore_n 3, 1, 0, 3, [])]
def KX3_judgeCase_114 : List RI := [(.aload 4, 2, 0, 0, []), (.getfield 322, 3, 0, 275, []), (.astore 4, 2, 0, 0, []), (.goto (-71), 3, 0, 50, [])]
def KX3_judgeCase_124 : List RI := [(.iload_n 3, 1, 0, 3, []), (.ifCond .ne 19, 3, 0, 144, [])]
def KX3_judgeCase_128 : List RI := [(.aload_n 0, 1, 0, 0, []), (.getfield 9, 3, 0, 121, []), (.bipush 8, 2, 0, 0, []), (.aload_n 2, 1, 0, 2, []), (.getfield 294, 3, 0, 279, []), (.getfield 149, 3, 0, 62, []), (.invokevirtual 57, 3, 2, 118, [(0, 0), (0, 0), (0, 0), (0, 0), (0, 0), (0, 0), (0, 0)])]
def KX3_judgeCase_144 : List RI := [(.return_, 1, 0, 0, [])]
def KX3_judgeCase : RB := [(0, KX3_judgeCase_0), (10, KX3_judgeCase_10), (11, KX3_judgeCase_11), (21, KX3_judgeCase_21), (38, KX3_judgeCase_38), (42, KX3_judgeCase_42), (43, KX3_judgeCase_43), (50, KX3_judgeCase_50), (55, KX3_judgeCase_55), (61, KX3_judgeCase_61), (71, KX3_judgeCase_71), (82, KX3_judgeCase_82), (93, KX3_judgeCase_93), (112, KX3_judgeCase_112), (114, KX3_judgeCase_114), (124, KX3_judgeCase_124), (128, KX3_judgeCase_128), (144, KX3_judgeCase_144)]
def rX3_judgeCase : CmC := (yX3_judgeCase, cX3_judgeCase, 5, none, 2, 4, false)
theorem hX3_judgeCase : mtC[82]? = some rX3_judgeCase := rfl
set_option maxRecDepth 100000 in
theorem okX3_judgeCase : cokMC rX3_judgeCase KX3_judgeCase = true := cokMC_of [] (fun _ h => absurd h List.not_mem_nil) (by decide +kernel) (by decide +kernel)
def KX3_judgeJump_0 : List RI := [(.aload_n 1, 1, 0, 1, []), (.getfield 324, 3, 0, 273, []), (.astore_n 2, 1, 0, 2, [])]
def KX3_judgeJump_5 : List RI := [(.aload_n 2, 1, 0, 2, []), (.ifnull 87, 3, 0, 93, [])]
def KX3_judgeJump_9 : List RI := [(.aload_n 1, 1, 0, 1, []), (.getfield 327, 3, 0, 281, []), (.ifnonnull 80, 3, 0, 93, [])]
def KX3_judgeJump_16 : List RI := [(.aload_n 1, 1, 0, 1, []), (.getfield 330, 3, 0, 280, []), (.ifCond .ge 36, 3, 0, 56, [])]
def KX3_judgeJump_23 : List RI := [(.aload_n 2, 1, 0, 2, []), (.invokevirtual 331, 3, 0, 179, [(0, 0), (0, 0), (0, 0), (0, 0), (0, 0), (0, 0), (0, 0), (0, 0), (0, 0)]), (.ifCond .ne 21, 3, 0, 48, [])]
def KX3_judgeJump_30 : List RI := [(.aload_n 1, 1, 0, 1, []), (.getfield 293, 3, 0, 270, []), (.bipush 64, 2, 0, 0, []), (.if_icmp .ne 49, 3, 0, 85, [])]
def KX3_judgeJump_39 : List RI := [(.aload_n 2, 1, 0, 2, []), (.getfield 293, 3, 0, 270, []), (.bipush 61, 2, 0, 0, []), (.if_icmp .ne 40, 3, 0, 85, [])]
def KX3_judgeJump_48 : List RI := [(.aload_n 1, 1, 0, 1, []), (.aload_n 2, 1, 0, 2, []), (.putfield 327, 3, 0, 281, []), (.goto 32, 3, 0, 85, [])]
def KX3_judgeJump_56 : List RI := [(.aload_n 2, 1, 0, 2, []), (.getfield 293, 3, 0, 270, []), (.bipush 6, 2, 0, 0, []), (.if_icmp .ne 23, 3, 0, 85, [])]
def KX3_judgeJump_65 : List RI := [(.aload_n 0, 1, 0, 0, []), (.aload_n 1, 1, 0, 1, []), (.getfield 330, 3, 0, 280, []), (.aload_n 2, 1, 0, 2, []), (.getfield 330, 3, 0, 280, []), (.invokevirtual 334, 3, 2, 84, [(0, 0), (0, 0), (0, 0), (0, 0)]), (.ifCond .eq 8, 3, 0, 85, [])]
def KX3_judgeJump_80 : List RI := [(.aload_n 1, 1, 0, 1, []), (.aload_n 2, 1, 0, 2, []), (.putfield 327, 3, 0, 281, [])]
def KX3_judgeJump_85 : List RI := [(.aload_n 2, 1, 0, 2, []), (.getfield 324, 3, 0, 273, []), (.astore_n 2, 1, 0, 2, []), (.goto (-85), 3, 0, 5, [])]
def KX3_judgeJump_93 : List RI := [(.aload_n 1, 1, 0, 1, []), (.getfield 293, 3, 0, 270, []), (.bipush 65, 2, 0, 0, []), (.if_icmp .ne 50, 3, 0, 149, [])]
def KX3_judgeJump_102 : List RI := [(.aload_n 1, 1, 0, 1, []), (.getfield 327, 3, 0, 281, []), (.ifnull 43, 3, 0, 149, [])]
def KX3_judgeJump_109 : List RI := [(.aload_n 1, 1, 0, 1, []), (.getfield 327, 3, 0, 281, []), (.getfield 293, 3, 0, 270, []), (.bipush 6, 2, 0, 0, []), (.if_icmp .ne 31, 3, 0, 149, [])]
def KX3_judgeJump_121 : List RI := [(.aload_n 1, 1, 0, 1, []), (.getfield 327, 3, 0, 281, []), (.getfield 313, 3, 0, 276, []), (.astore_n 2, 1, 0, 2, []), (.aload_n 1, 1, 0, 1, []), (.aload_n 2, 1, 0, 2, []), (.ifnull 14, 3, 0, 145, [])]
def KX3_judgeJump_134 : List RI := [(.aload_n 2, 1, 0, 2, []), (.invokevirtual 331, 3, 0, 179, [(0, 0), (0, 0), (0, 0), (0, 0), (0, 0), (0, 0), (0, 0), (0, 0), (0, 0)]), (.ifCond .eq 7, 3, 0, 145, [])]
def KX3_judgeJump_141 : List RI := [(.aload_n 2, 1, 0, 2, []), (.goto 4, 3, 0, 146, [])]
def KX3_judgeJump_145 : List RI := [(.aconst_null, 1, 0, 0, [])]
def KX3_judgeJump_146 : List RI := [(.putfield 327, 3, 0, 281, [])]
def KX3_judgeJump_149 : List RI := [(.aload_n 1, 1, 0, 1, []), (.getfield 327, 3, 0, 281, []), (.ifnonnull 30, 3, 0, 183, [])]
def KX3_judgeJump_156 : List RI := [(.aload_n 0, 1, 0, 0, []), (.getfield 9, 3, 0, 121, []), (.bipush 9, 2, 0, 0, []), (.aload_n 1, 1, 0, 1, []), (.getfield 330, 3, 0, 280, []), (.ifCond .ge 10, 3, 0, 176, [])]
def KX3_judgeJump_169 : List RI := [(.aload_n 1, 1, 0, 1, []), (.getfield 321, 3, 0, 271, []), (.goto 7, 3, 0, 180, [])]
def KX3_judgeJump_176 : List RI := [(.aload_n 1, 1, 0, 1, []), (.getfield 330, 3, 0, 280, [])]
def KX3_judgeJump_180 : List RI := [(.invokevirtual 57, 3, 2, 118, [(0, 0), (0, 0), (0, 0), (0, 0), (0, 0), (0, 0), (0, 0)])]
def KX3_judgeJump_183 : List RI := [(.return_, 1, 0, 0, [])]
def KX3_judgeJump : RB := [(0, KX3_judgeJump_0), (5, KX3_judgeJump_5), (9, KX3_judgeJump_9), (16, KX3_judgeJump_16), (23, KX3_judgeJump_23), (30, KX3_judgeJump_30), (39, KX3_judgeJump_39), (48, KX3_judgeJump_48), (56, KX3_judgeJump_56), (65, KX3_judgeJump_65), (80, KX3_judgeJump_80), (85, KX3_judgeJump_85), (93, KX3_judgeJump_93), (102, KX3_judgeJump_102), (109, KX3_judgeJump_109), (121, KX3_judgeJump_121), (134, KX3_judgeJump_134), (141, KX3_judgeJump_141), (145, KX3_judgeJump_145), (146, KX3_judgeJump_146), (149, KX3_judgeJump_149), (156, KX3_judgeJump_156), (169, KX3_judgeJump_169), (176, KX3_judgeJump_176), (180, KX3_judgeJump_180), (183, KX3_judgeJump_183)]
def rX3_judgeJump : CmC := (yX3_judgeJump, cX3_judgeJump, 3, none, 1, 4, false)
theorem hX3_judgeJump : mtC[83]? = some rX3_judgeJump := rfl
set_option maxRecDepth 100000 in
theorem okX3_judgeJump : cokMC rX3_judgeJump KX3_judgeJump = true := cokMC_of [] (fun _ h => absurd h List.not_mem_nil) (by decide +kernel) (by decide +kernel)
def KX3_isSameName_0 : List RI := [(.aload_n 0, 1, 0, 0, []), (.getfield 9, 3, 0, 121, []), (.getfield 268, 3, 0, 210, []), (.getfield 278, 3, 0, 304, []), (.iload_n 1, 1, 0, 1, []), (.laload, 1, 0, 0, []), (.aload_n 0, 1, 0, 0, []), (.getfield 9, 3, 0, 121, []), (.getfield 268, 3, 0, 210, []), (.getfield 278, 3, 0, 304, []), (.iload_n 2, 1, 0, 2, []), (.laload, 1, 0, 0, []), (.lcmp, 1, 0, 0, []), (.ifCond .ne 7, 3, 0, 32, [])]
def KX3_isSameName_28 : List RI := [(.iconst 1, 1, 0, 0, []), (.goto 4, 3, 0, 33, [])]
def KX3_isSameName_32 : List RI := [(.iconst 0, 1, 0, 0, [])]
def KX3_isSameName_33 : List RI := [(.ireturn, 1, 2, 0, [])]
def KX3_isSameName : RB := [(0, KX3_isSameName_0), (28, KX3_isSameName_28), (32, KX3_isSameName_32), (33, KX3_isSameName_33)]
def rX3_isSameName : CmC := (yX3_isSameName, cX3_isSameName, 3, (some .boolean), 2, 4, false)
theorem hX3_isSameName : mtC[84]? = some rX3_isSameName := rfl
set_option maxRecDepth 100000 in
theorem okX3_isSameName : cokMC rX3_isSameName KX3_isSameName = true := cokMC_of [] (fun _ h => absurd h List.not_mem_nil) (by decide +kernel) (by decide +kernel)
def KX3_judgeLabel_0 : List RI := [(.aload_n 1, 1, 0, 1, []), (.getfield 324, 3, 0, 273, []), (.astore_n 2, 1, 0, 2, [])]
def KX3_judgeLabel_5 : List RI := [(.aload_n 2, 1, 0, 2, []), (.ifnull 48, 3, 0, 54, [])]
def KX3_judgeLabel_9 : List RI := [(.aload_n 2, 1, 0, 2, []), (.getfield 293, 3, 0, 270, []), (.bipush 6, 2, 0, 0, []), (.if_icmp .ne 31, 3, 0, 46, [])]
def KX3_judgeLabel_18 : List RI := [(.aload_n 0, 1, 0, 0, []), (.aload_n 1, 1, 0, 1, []), (.getfield 330, 3, 0, 280, []), (.aload_n 2, 1, 0, 2, []), (.getfield 330, 3, 0, 280, []), (.invokevirtual 334, 3, 2, 84, [(0, 0), (0, 0), (0, 0), (0, 0)]), (.ifCond .eq 16, 3, 0, 46, [])]
def KX3_judgeLabel_33 : List RI := [(.aload_n 0, 1, 0, 0, []), (.getfield 9, 3, 0, 121, []), (.bipush 10, 2, 0, 0, []), (.aload_n 1, 1, 0, 1, []), (.getfield 330, 3, 0, 280, []), (.invokevirtual 57, 3, 2, 118, [(0, 0), (0, 0), (0, 0), (0, 0), (0, 0), (0, 0), (0, 0)])]
def KX3_judgeLabel_46 : List RI := [(.aload_n 2, 1, 0, 2, []), (.getfield 324, 3, 0, 273, []), (.astore_n 2, 1, 0, 2, []), (.goto (-46), 3, 0, 5, [])]
def KX3_judgeLabel_54 : List RI := [(.return_, 1, 0, 0, [])]
def KX3_judgeLabel : RB := [(0, KX3_judgeLabel_0), (5, KX3_judgeLabel_5), (9, KX3_judgeLabel_9), (18, KX3_judgeLabel_18), (33, KX3_judgeLabel_33), (46, KX3_judgeLabel_46), (54, KX3_judgeLabel_54)]
def rX3_judgeLabel : CmC := (yX3_judgeLabel, cX3_judgeLabel, 3, none, 1, 4, false)
theorem hX3_judgeLabel : mtC[85]? = some rX3_judgeLabel := rfl
set_option maxRecDepth 100000 in
theorem okX3_judgeLabel : cokMC rX3_judgeLabel KX3_judgeLabel = true := cokMC_of [] (fun _ h => absurd h List.not_mem_nil) (by decide +kernel) (by decide +kernel)
def KX3_judgeReturn_0 : List RI := [(.aload_n 0, 1, 0, 0, []), (.getfield 9, 3, 0, 121, []), (.aload_n 1, 1, 0, 1, []), (.getfield 330, 3, 0, 280, []), (.invokevirtual 90, 3, 1, 119, [(0, 0), (0, 0), (0, 0), (0, 0), (0, 0), (0, 0), (0, 0)]), (.astore_n 2, 1, 0, 2, []), (.aload_n 2, 1, 0, 2, []), (.ifnull 20, 3, 0, 33, [])]
def KX3_judgeReturn_16 : List RI := [(.aload_n 1, 1, 0, 1, []), (.getfield 294, 3, 0, 279, []), (.ifnull 14, 3, 0, 34, [])]
def KX3_judgeReturn_23 : List RI := [(.aload_n 1, 1, 0, 1, []), (.getfield 294, 3, 0, 279, []), (.invokestatic 170, 3, 1, 52, []), (.ifCond .eq 4, 3, 0, 34, [])]
def KX3_judgeReturn_33 : List RI := [(.return_, 1, 0, 0, [])]
def KX3_judgeReturn_34 : List RI := [(.aload_n 1, 1, 0, 1, []), (.getfield 294, 3, 0, 279, []), (.ifnonnull 7, 3, 0, 45, [])]
def KX3_judgeReturn_41 : List RI := [(.iconst 1, 1, 0, 0, []), (.goto 4, 3, 0, 46, [])]
def KX3_judgeReturn_45 : List RI := [(.iconst 0, 1, 0, 0, [])]
def KX3_judgeReturn_46 : List RI := [(.aload_n 2, 1, 0, 2, []), (.getfield 267, 3, 0, 182, []), (.iconst 5, 1, 0, 0, []), (.if_icmp .ne 7, 3, 0, 58, [])]
def KX3_judgeReturn_54 : List RI := [(.iconst 1, 1, 0, 0, []), (.goto 4, 3, 0, 59, [])]
def KX3_judgeReturn_58 : List RI := [(.iconst 0, 1, 0, 0, [])]
def KX3_judgeReturn_59 : List RI := [(.if_icmp .eq 19, 3, 0, 78, [])]
def KX3_judgeReturn_62 : List RI := [(.aload_n 0, 1, 0, 0, []), (.getfield 9, 3, 0, 121, []), (.bipush 11, 2, 0, 0, []), (.aload_n 1, 1, 0, 1, []), (.getfield 321, 3, 0, 271, []), (.invokevirtual 57, 3, 2, 118, [(0, 0), (0, 0), (0, 0), (0, 0), (0, 0), (0, 0), (0, 0)]), (.goto 33, 3, 0, 108, [])]
def KX3_judgeReturn_78 : List RI := [(.aload_n 1, 1, 0, 1, []), (.getfield 294, 3, 0, 279, []), (.ifnull 26, 3, 0, 108, [])]
def KX3_judgeReturn_85 : List RI := [(.aload_n 0, 1, 0, 0, []), (.aload_n 1, 1, 0, 1, []), (.getfield 294, 3, 0, 279, []), (.aload_n 2, 1, 0, 2, []), (.getfield 267, 3, 0, 182, []), (.invokestatic 204, 3, 2, 75, []), (.aload_n 1, 1, 0, 1, []), (.getfield 294, 3, 0, 279, []), (.getfield 149, 3, 0, 62, []), (.invokevirtual 207, 3, 2, 62, [(0, 0), (0, 0), (0, 0), (0, 0)]), (.pop, 1, 0, 0, [])]
def KX3_judgeReturn_108 : List RI := [(.return_, 1, 0, 0, [])]
def KX3_judgeReturn : RB := [(0, KX3_judgeReturn_0), (16, KX3_judgeReturn_16), (23, KX3_judgeReturn_23), (33, KX3_judgeReturn_33), (34, KX3_judgeReturn_34), (41, KX3_judgeReturn_41), (45, KX3_judgeReturn_45), (46, KX3_judgeReturn_46), (54, KX3_judgeReturn_54), (58, KX3_judgeReturn_58), (59, KX3_judgeReturn_59), (62, KX3_judgeReturn_62), (78, KX3_judgeReturn_78), (85, KX3_judgeReturn_85), (108, KX3_judgeReturn_108)]
def rX3_judgeReturn : CmC := (yX3_judgeReturn, cX3_judgeReturn, 3, none, 1, 4, false)
theorem hX3_judgeReturn : mtC[86]? = some rX3_judgeReturn := rfl
set_option maxRecDepth 100000 in
theorem okX3_judgeReturn : cokMC rX3_judgeReturn KX3_judgeReturn = true := cokMC_of [] (fun _ h => absurd h List.not_mem_nil) (by decide +kernel) (by decide +kernel)
def KX4_init_0 : List RI := [(.aload_n 0, 1, 0, 0, []), (.invokespecial 3, 3, 0, 9999, []), (.aload_n 0, 1, 0, 0, []), (.sipush 1800, 3, 0, 0, []), (.newarray .long, 2, 0, 102, []), (.putfield 9, 3, 0, 150, []), (.aload_n 0, 1, 0, 0, []), (.sipush 7500, 3, 0, 0, []), (.newarray .long, 2, 0, 102, []), (.putfield 15, 3, 0, 151, []), (.aload_n 0, 1, 0, 0, []), (.bipush 31, 2, 0, 0, []), (.newarray .int, 2, 1, 100, []), (.putfield 18, 3, 0, 152, []), (.aload_n 0, 1, 0, 0, []), (.bipush 31, 2, 0, 0, []), (.newarray .int, 2, 0, 100, []), (.putfield 22, 3, 0, 153, []), (.aload_n 0, 1, 0, 0, []), (.sipush 630, 3, 0, 0, []), (.newarray .int, 2, 0, 100, []), (.putfield 25, 3, 0, 154, []), (.aload_n 0, 1, 0, 0, []), (.sipush 630, 3, 0, 0, []), (.newarray .long, 2, 0, 102, []), (.putfield 28, 3, 0, 155, []), (.aload_n 0, 1, 0, 0, []), (.sipush 630, 3, 0, 0, []), (.anewarray 31, 3, 0, 105, []), (.putfield 33, 3, 0, 156, []), (.aload_n 0, 1, 0, 0, []), (.sipush 200, 3, 0, 0, []), (.newarray .long, 2, 0, 102, []), (.putfield 37, 3, 0, 157, []), (.aload_n 0, 1, 0, 0, []), (.iconst 0, 1, 0, 0, []), (.newarray .int, 2, 0, 100, []), (.putfield 40, 3, 0, 159, []), (.aload_n 0, 1, 0, 0, []), (.aload_n 1, 1, 0, 1, []), (.putfield 43, 3, 0, 158, []), (.return_, 1, 0, 0, [])]
def KX4_init : RB := [(0, KX4_init_0)]
def rX4_init : CmC := (yX4_init, cX4_init, 2, none, 1, 5, false)
theorem hX4_init : mtC[87]? = some rX4_init := rfl
set_option maxRecDepth 100000 in
theorem swX4_init_8 : decode cX4_init 8 = .ok (.newarray .long, 2) := by decide +kernel
set_option maxRecDepth 100000 in
theorem swX4_init_17 : decode cX4_init 17 = .ok (.newarray .long, 2) := by decide +kernel
set_option maxRecDepth 100000 in
theorem swX4_init_25 : decode cX4_init 25 = .ok (.newarray .int, 2) := by decide +kernel
set_option maxRecDepth 100000 in
theorem swX4_init_33 : decode cX4_init 33 = .ok (.newarray .int, 2) := by decide +kernel
set_option maxRecDepth 100000 in
theorem swX4_init_42 : decode cX4_init 42 = .ok (.newarray .int, 2) := by decide +kernel
set_option maxRecDepth 100000 in
theorem swX4_init_51 : decode cX4_init 51 = .ok (.newarray .long, 2) := by decide +kernel
set_option maxRecDepth 100000 in
theorem swX4_init_70 : decode cX4_init 70 = .ok (.newarray .long, 2) := by decide +kernel
set_option maxRecDepth 100000 in
theorem swX4_init_77 : decode cX4_init 77 = .ok (.newarray .int, 2) := by decide +kernel
set_option maxRecDepth 100000 in
theorem okX4_init : cokMC rX4_init KX4_init = true := cokMC_of [(8, .newarray .long, 2), (17, .newarray .long, 2), (25, .newarray .int, 2), (33, .newarray .int, 2), (42, .newarray .int, 2), (51, .newarray .long, 2), (70, .newarray .long, 2), (77, .newarray .int, 2)] (fun q hq => by
  simp only [List.mem_cons, List.not_mem_nil, or_false] at hq
  rcases hq with rfl | rfl | rfl | rfl | rfl | rfl | rfl | rfl
  · exact swX4_init_8
  · exact swX4_init_17
  · exact swX4_init_25
  · exact swX4_init_33
  · exact swX4_init_42
  · exact swX4_init_51
  · exact swX4_init_70
  · exact swX4_init_77) (by decide +kernel) (by decide +kernel)
def KX4_prepare_0 : List RI := [(.aload_n 0, 1, 0, 0, []), (.aload_n 1, 1, 0, 1, []), (.putfield 40, 3, 0, 159, []), (.aload_n 0, 1, 0, 0, []), (.iload_n 2, 1, 0, 2, []), (.aload_n 1, 1, 0, 1, []), (.arraylength, 1, 0, 0, []), (.invokestatic 47, 3, 2, 9996, []), (.putfield 53, 3, 0, 160, []), (.aload_n 0, 1, 0, 0, []), (.iconst 0, 1, 0, 0, []), (.putfield 57, 3, 0, 162, []), (.aload_n 0, 1, 0, 0, []), (.iconst 0, 1, 0, 0, []), (.putfield 60, 3, 0, 163, []), (.aload_n 0, 1, 0, 0, []), (.iconst 0, 1, 0, 0, []), (.putfield 63, 3, 0, 165, []), (.aload_n 0, 1, 0, 0, []), (.iconst 0, 1, 0, 0, []), (.putfield 66, 3, 0, 166, []), (.aload_n 0, 1, 0, 0, []), (.iconst 0, 1, 0, 0, []), (.putfield 69, 3, 0, 167, []), (.aload_n 0, 1, 0, 0, []), (.iconst (-1), 1, 0, 0, []), (.putfield 72, 3, 0, 168, []), (.aload_n 0, 1, 0, 0, []), (.lconst 0, 1, 0, 0, []), (.putfield 75, 3, 0, 170, []), (.aload_n 0, 1, 0, 0, []), (.bipush 6, 2, 0, 0, []), (.putfield 79, 3, 0, 169, []), (.return_, 1, 0, 0, [])]
def KX4_prepare : RB := [(0, KX4_prepare_0)]
def rX4_prepare : CmC := (yX4_prepare, cX4_prepare, 3, none, 2, 5, false)
theorem hX4_prepare : mtC[88]? = some rX4_prepare := rfl
set_option maxRecDepth 100000 in
theorem okX4_prepare : cokMC rX4_prepare KX4_prepare = true := cokMC_of [] (fun _ h => absurd h List.not_mem_nil) (by decide +kernel) (by decide +kernel)
def KX4_perform_0 : List RI := [(.aload_n 0, 1, 0, 0, []), (.iload_n 3, 1, 0, 3, []), (.putfield 82, 3, 0, 164, []), (.iconst 0, 1, 0, 0, []), (.istore 4, 2, 0, 0, [])]
def KX4_perform_8 : List RI := [(.iload 4, 2, 0, 0, []), (.aload_n 1, 1, 0, 1, []), (.getfield 85, 3, 0, 185, []), (.if_icmp .ge 60, 3, 0, 74, [])]
def KX4_perform_17 : List RI := [(.iload 4, 2, 0, 0, []), (.aload_n 2, 1, 0, 2, []), (.arraylength, 1, 0, 0, []), (.if_icmp .ge 53, 3, 0, 74, [])]
def KX4_perform_24 : List RI := [(.aload_n 1, 1, 0, 1, []), (.getfield 90, 3, 0, 183, []), (.iload 4, 2, 0, 0, []), (.iaload, 1, 0, 0, []), (.istore 5, 2, 0, 0, []), (.aload_n 0, 1, 0, 0, []), (.iload 5, 2, 0, 0, []), (.ifCond .ne 20, 3, 0, 56, [])]
def KX4_perform_39 : List RI := [(.aload_n 2, 1, 0, 2, []), (.iload 4, 2, 0, 0, []), (.laload, 1, 0, 0, []), (.lconst 0, 1, 0, 0, []), (.lcmp, 1, 0, 0, []), (.ifCond .eq 7, 3, 0, 52, [])]
def KX4_perform_48 : List RI := [(.lconst 1, 1, 0, 0, []), (.goto 16, 3, 0, 65, [])]
def KX4_perform_52 : List RI := [(.lconst 0, 1, 0, 0, []), (.goto 12, 3, 0, 65, [])]
def KX4_perform_56 : List RI := [(.iload 5, 2, 0, 0, []), (.aload_n 2, 1, 0, 2, []), (.iload 4, 2, 0, 0, []), (.laload, 1, 0, 0, []), (.invokestatic 93, 3, 2, 228, [])]
def KX4_perform_65 : List RI := [(.invokevirtual 97, 3, 1, 91, [(0, 0), (0, 0), (0, 0), (0, 0), (0, 0)]), (.iinc 4 1, 3, 0, 0, []), (.goto (-63), 3, 0, 8, [])]
def KX4_perform_74 : List RI := [(.aload_n 0, 1, 0, 0, []), (.invokevirtual 101, 3, 0, 94, [(0, 0), (0, 0), (0, 0), (0, 0), (0, 0)]), (.ifCond .eq 8, 3, 0, 86, [])]
def KX4_perform_81 : List RI := [(.aload_n 0, 1, 0, 0, []), (.aload_n 1, 1, 0, 1, []), (.invokevirtual 105, 3, 1, 102, [(0, 0), (0, 0), (0, 0), (0, 0), (0, 0)])]
def KX4_perform_86 : List RI := [(.iconst 0, 1, 0, 0, []), (.istore 4, 2, 0, 0, [])]
def KX4_perform_89 : List RI := [(.aload_n 0, 1, 0, 0, []), (.getfield 79, 3, 0, 169, []), (.bipush 6, 2, 0, 0, []), (.if_icmp .ne 20, 3, 0, 115, [])]
def KX4_perform_98 : List RI := [(.iload 4, 2, 0, 0, []), (.ldc 109, 2, 100000000, 0, []), (.if_icmp .ge 13, 3, 0, 115, [])]
def KX4_perform_105 : List RI := [(.aload_n 0, 1, 0, 0, []), (.invokevirtual 110, 3, 0, 95, [(0, 0), (0, 0), (0, 0), (0, 0), (0, 0)]), (.iinc 4 1, 3, 0, 0, []), (.goto (-23), 3, 0, 89, [])]
def KX4_perform_115 : List RI := [(.aload_n 0, 1, 0, 0, []), (.getfield 79, 3, 0, 169, []), (.ifCond .ne 16, 3, 0, 135, [])]
def KX4_perform_122 : List RI := [(.aload_n 1, 1, 0, 1, []), (.getfield 113, 3, 0, 182, []), (.iconst 5, 1, 0, 0, []), (.if_icmp .eq 8, 3, 0, 135, [])]
def KX4_perform_130 : List RI := [(.aload_n 0, 1, 0, 0, []), (.iconst 1, 1, 0, 0, []), (.putfield 79, 3, 0, 169, [])]
def KX4_perform_135 : List RI := [(.aload_n 0, 1, 0, 0, []), (.getfield 79, 3, 0, 169, []), (.ireturn, 1, 1, 0, [])]
def KX4_perform : RB := [(0, KX4_perform_0), (8, KX4_perform_8), (17, KX4_perform_17), (24, KX4_perform_24), (39, KX4_perform_39), (48, KX4_perform_48), (52, KX4_perform_52), (56, KX4_perform_56), (65, KX4_perform_65), (74, KX4_perform_74), (81, KX4_perform_81), (86, KX4_perform_86), (89, KX4_perform_89), (98, KX4_perform_98), (105, KX4_perform_105), (115, KX4_perform_115), (122, KX4_perform_122), (130, KX4_perform_130), (135, KX4_perform_135)]
def rX4_perform : CmC := (yX4_perform, cX4_perform, 6, (some .int), 3, 5, false)
theorem hX4_perform : mtC[89]? = some rX4_perform := rfl
set_option maxRecDepth 100000 in
theorem okX4_perform : cokMC rX4_perform KX4_perform = true := cokMC_of [] (fun _ h => absurd h List.not_mem_nil) (by decide +kernel) (by decide +kernel)
def KX4_report_0 : List RI := [(.iload_n 1, 1, 0, 1, []), (.tableswitch 77 0 4 #[35, 40, 46, 52, 58], 35, 0, 78, [(0, 36), (1, 41), (2, 47), (3, 53), (4, 59)])]
def KX4_report_36 : List RI := [(.aload_n 0, 1, 0, 0, []), (.getfield 75, 3, 0, 170, []), (.lreturn, 1, 0, 0, [])]
def KX4_report_41 : List RI := [(.aload_n 0, 1, 0, 0, []), (.getfield 63, 3, 0, 165, []), (.i2l, 1, 0, 0, []), (.lreturn, 1, 0, 0, [])]
def KX4_report_47 : List RI := [(.aload_n 0, 1, 0, 0, []), (.getfield 66, 3, 0, 166, []), (.i2l, 1, 0, 0, []), (.lreturn, 1, 0, 0, [])]
def KX4_report_53 : List RI := [(.aload_n 0, 1, 0, 0, []), (.getfield 69, 3, 0, 167, []), (.i2l, 1, 0, 0, []), (.lreturn, 1, 0, 0, [])]
def KX4_report_59 : List RI := [(.aload_n 0, 1, 0, 0, []), (.getfield 72, 3, 0, 168, []), (.ifCond .ge 9, 3, 0, 72, [])]
def KX4_report_66 : List RI := [(.ldc2_w 116, 3, (-1234567890123), 0, []), (.goto 8, 3, 0, 77, [])]
def KX4_report_72 : List RI := [(.aload_n 0, 1, 0, 0, []), (.getfield 72, 3, 0, 168, []), (.i2l, 1, 0, 0, [])]
def KX4_report_77 : List RI := [(.lreturn, 1, 0, 0, [])]
def KX4_report_78 : List RI := [(.iload_n 1, 1, 0, 1, []), (.bipush 10, 2, 0, 0, []), (.if_icmp .lt 26, 3, 0, 107, [])]
def KX4_report_84 : List RI := [(.iload_n 1, 1, 0, 1, []), (.bipush 10, 2, 0, 0, []), (.isub, 1, 0, 0, []), (.aload_n 0, 1, 0, 0, []), (.getfield 66, 3, 0, 166, []), (.if_icmp .ge 15, 3, 0, 107, [])]
def KX4_report_95 : List RI := [(.aload_n 0, 1, 0, 0, []), (.getfield 37, 3, 0, 157, []), (.iload_n 1, 1, 0, 1, []), (.bipush 10, 2, 0, 0, []), (.isub, 1, 0, 0, []), (.laload, 1, 0, 0, []), (.goto 6, 3, 0, 110, [])]
def KX4_report_107 : List RI := [(.ldc2_w 116, 3, (-1234567890123), 0, [])]
def KX4_report_110 : List RI := [(.lreturn, 1, 0, 0, [])]
def KX4_report : RB := [(0, KX4_report_0), (36, KX4_report_36), (41, KX4_report_41), (47, KX4_report_47), (53, KX4_report_53), (59, KX4_report_59), (66, KX4_report_66), (72, KX4_report_72), (77, KX4_report_77), (78, KX4_report_78), (84, KX4_report_84), (95, KX4_report_95), (107, KX4_report_107), (110, KX4_report_110)]
def rX4_report : CmC := (yX4_report, cX4_report, 2, (some .long), 1, 5, false)
theorem hX4_report : mtC[90]? = some rX4_report := rfl
set_option maxRecDepth 100000 in
theorem swX4_report_1 : decode cX4_report 1 = .ok (.tableswitch 77 0 4 #[35, 40, 46, 52, 58], 35) := by decide +kernel
set_option maxRecDepth 100000 in
theorem okX4_report : cokMC rX4_report KX4_report = true := cokMC_of [(1, .tableswitch 77 0 4 #[35, 40, 46, 52, 58], 35)] (fun q hq => by
  obtain rfl := List.mem_singleton.mp hq
  exact swX4_report_1) (by decide +kernel) (by decide +kernel)
def KX4_push_0 : List RI := [(.aload_n 0, 1, 0, 0, []), (.getfield 57, 3, 0, 162, []), (.aload_n 0, 1, 0, 0, []), (.getfield 15, 3, 0, 151, []), (.arraylength, 1, 0, 0, []), (.if_icmp .ge 23, 3, 0, 32, [])]
def KX4_push_12 : List RI := [(.aload_n 0, 1, 0, 0, []), (.getfield 15, 3, 0, 151, []), (.aload_n 0, 1, 0, 0, []), (.getfield 57, 3, 0, 162, []), (.lload_n 1, 1, 0, 1, []), (.lastore, 1, 0, 0, []), (.aload_n 0, 1, 0, 0, []), (.dup, 1, 0, 0, []), (.getfield 57, 3, 0, 162, []), (.iconst 1, 1, 0, 0, []), (.iadd, 1, 0, 0, []), (.putfield 57, 3, 0, 162, [])]
def KX4_push_32 : List RI := [(.return_, 1, 0, 0, [])]
def KX4_push : RB := [(0, KX4_push_0), (12, KX4_push_12), (32, KX4_push_32)]
def rX4_push : CmC := (yX4_push, cX4_push, 3, none, 1, 5, false)
theorem hX4_push : mtC[91]? = some rX4_push := rfl
set_option maxRecDepth 100000 in
theorem okX4_push : cokMC rX4_push KX4_push = true := cokMC_of [] (fun _ h => absurd h List.not_mem_nil) (by decide +kernel) (by decide +kernel)
def KX4_pop_0 : List RI := [(.aload_n 0, 1, 0, 0, []), (.getfield 57, 3, 0, 162, []), (.ifCond .gt 5, 3, 0, 9, [])]
def KX4_pop_7 : List RI := [(.lconst 0, 1, 0, 0, []), (.lreturn, 1, 0, 0, [])]
def KX4_pop_9 : List RI := [(.aload_n 0, 1, 0, 0, []), (.dup, 1, 0, 0, []), (.getfield 57, 3, 0, 162, []), (.iconst 1, 1, 0, 0, []), (.isub, 1, 0, 0, []), (.putfield 57, 3, 0, 162, []), (.aload_n 0, 1, 0, 0, []), (.getfield 15, 3, 0, 151, []), (.aload_n 0, 1, 0, 0, []), (.getfield 57, 3, 0, 162, []), (.laload, 1, 0, 0, []), (.lreturn, 1, 0, 0, [])]
def KX4_pop : RB := [(0, KX4_pop_0), (7, KX4_pop_7), (9, KX4_pop_9)]
def rX4_pop : CmC := (yX4_pop, cX4_pop, 1, (some .long), 0, 5, false)
theorem hX4_pop : mtC[92]? = some rX4_pop := rfl
set_option maxRecDepth 100000 in
theorem okX4_pop : cokMC rX4_pop KX4_pop = true := cokMC_of [] (fun _ h => absurd h List.not_mem_nil) (by decide +kernel) (by decide +kernel)
def KX4_slot_0 : List RI := [(.aload_n 0, 1, 0, 0, []), (.getfield 60, 3, 0, 163, []), (.iconst 1, 1, 0, 0, []), (.isub, 1, 0, 0, []), (.bipush 60, 2, 0, 0, []), (.imul, 1, 0, 0, []), (.iload_n 1, 1, 0, 1, []), (.iadd, 1, 0, 0, []), (.istore_n 2, 1, 0, 2, []), (.iload_n 2, 1, 0, 2, []), (.ifCond .lt 16, 3, 0, 29, [])]
def KX4_slot_16 : List RI := [(.iload_n 2, 1, 0, 2, []), (.aload_n 0, 1, 0, 0, []), (.getfield 9, 3, 0, 150, []), (.arraylength, 1, 0, 0, []), (.if_icmp .ge 7, 3, 0, 29, [])]
def KX4_slot_25 : List RI := [(.iload_n 2, 1, 0, 2, []), (.goto 4, 3, 0, 30, [])]
def KX4_slot_29 : List RI := [(.iconst 0, 1, 0, 0, [])]
def KX4_slot_30 : List RI := [(.ireturn, 1, 1, 0, [])]
def KX4_slot : RB := [(0, KX4_slot_0), (16, KX4_slot_16), (25, KX4_slot_25), (29, KX4_slot_29), (30, KX4_slot_30)]
def rX4_slot : CmC := (yX4_slot, cX4_slot, 3, (some .int), 1, 5, false)
theorem hX4_slot : mtC[93]? = some rX4_slot := rfl
set_option maxRecDepth 100000 in
theorem okX4_slot : cokMC rX4_slot KX4_slot = true := cokMC_of [] (fun _ h => absurd h List.not_mem_nil) (by decide +kernel) (by decide +kernel)
def KX4_step_0 : List RI := [(.aload_n 0, 1, 0, 0, []), (.getfield 63, 3, 0, 165, []), (.aload_n 0, 1, 0, 0, []), (.getfield 82, 3, 0, 164, []), (.if_icmp .lt 10, 3, 0, 18, [])]
def KX4_step_11 : List RI := [(.aload_n 0, 1, 0, 0, []), (.iconst 3, 1, 0, 0, []), (.putfield 79, 3, 0, 169, []), (.iconst 0, 1, 0, 0, []), (.ireturn, 1, 2, 0, [])]
def KX4_step_18 : List RI := [(.aload_n 0, 1, 0, 0, []), (.dup, 1, 0, 0, []), (.getfield 63, 3, 0, 165, []), (.iconst 1, 1, 0, 0, []), (.iadd, 1, 0, 0, []), (.putfield 63, 3, 0, 165, []), (.iconst 1, 1, 0, 0, []), (.ireturn, 1, 2, 0, [])]
def KX4_step : RB := [(0, KX4_step_0), (11, KX4_step_11), (18, KX4_step_18)]
def rX4_step : CmC := (yX4_step, cX4_step, 1, (some .boolean), 0, 5, false)
theorem hX4_step : mtC[94]? = some rX4_step := rfl
set_option maxRecDepth 100000 in
theorem okX4_step : cokMC rX4_step KX4_step = true := cokMC_of [] (fun _ h => absurd h List.not_mem_nil) (by decide +kernel) (by decide +kernel)
def KX4_obey_0 : List RI := [(.aload_n 0, 1, 0, 0, []), (.getfield 118, 3, 0, 161, []), (.ifCond .lt 17, 3, 0, 21, [])]
def KX4_obey_7 : List RI := [(.aload_n 0, 1, 0, 0, []), (.getfield 118, 3, 0, 161, []), (.aload_n 0, 1, 0, 0, []), (.getfield 43, 3, 0, 158, []), (.getfield 121, 3, 0, 34, []), (.if_icmp .lt 9, 3, 0, 27, [])]
def KX4_obey_21 : List RI := [(.aload_n 0, 1, 0, 0, []), (.iconst 0, 1, 0, 0, []), (.putfield 79, 3, 0, 169, []), (.return_, 1, 0, 0, [])]
def KX4_obey_27 : List RI := [(.aload_n 0, 1, 0, 0, []), (.getfield 118, 3, 0, 161, []), (.istore_n 1, 1, 0, 1, []), (.aload_n 0, 1, 0, 0, []), (.dup, 1, 0, 0, []), (.getfield 118, 3, 0, 161, []), (.iconst 1, 1, 0, 0, []), (.iadd, 1, 0, 0, []), (.putfield 118, 3, 0, 161, []), (.aload_n 0, 1, 0, 0, []), (.getfield 43, 3, 0, 158, []), (.getfield 126, 3, 0, 32, []), (.iload_n 1, 1, 0, 1, []), (.aaload, 1, 0, 0, []), (.astore_n 2, 1, 0, 2, []), (.aload_n 0, 1, 0, 0, []), (.getfield 43, 3, 0, 158, []), (.getfield 130, 3, 0, 30, []), (.iload_n 1, 1, 0, 1, []), (.iaload, 1, 0, 0, []), (.bipush 8, 2, 0, 0, []), (.if_icmp .gt 58, 3, 0, 121, [])]
def KX4_obey_66 : List RI := [(.aload_n 2, 1, 0, 2, []), (.ifnull 54, 3, 0, 121, [])]
def KX4_obey_70 : List RI := [(.aload_n 0, 1, 0, 0, []), (.aload_n 0, 1, 0, 0, []), (.getfield 43, 3, 0, 158, []), (.getfield 130, 3, 0, 30, []), (.iload_n 1, 1, 0, 1, []), (.iaload, 1, 0, 0, []), (.aload_n 2, 1, 0, 2, []), (.invokevirtual 133, 3, 2, 96, [(0, 0), (0, 0), (0, 0), (0, 0), (0, 0)]), (.aload_n 0, 1, 0, 0, []), (.getfield 79, 3, 0, 169, []), (.bipush 7, 2, 0, 0, []), (.if_icmp .ne 104, 3, 0, 194, [])]
def KX4_obey_93 : List RI := [(.aload_n 0, 1, 0, 0, []), (.bipush 6, 2, 0, 0, []), (.putfield 79, 3, 0, 169, []), (.aload_n 0, 1, 0, 0, []), (.bipush 67, 2, 0, 0, []), (.ldc2_w 137, 3, (-1), 0, []), (.aload_n 0, 1, 0, 0, []), (.getfield 43, 3, 0, 158, []), (.getfield 139, 3, 0, 33, []), (.iload_n 1, 1, 0, 1, []), (.aaload, 1, 0, 0, []), (.aconst_null, 1, 0, 0, []), (.invokevirtual 142, 3, 4, 108, [(0, 0), (0, 0), (0, 0), (0, 0), (0, 0)]), (.goto 76, 3, 0, 194, [])]
def KX4_obey_121 : List RI := [(.aload_n 0, 1, 0, 0, []), (.getfield 43, 3, 0, 158, []), (.getfield 130, 3, 0, 30, []), (.iload_n 1, 1, 0, 1, []), (.iaload, 1, 0, 0, []), (.bipush 14, 2, 0, 0, []), (.if_icmp .gt 28, 3, 0, 160, [])]
def KX4_obey_135 : List RI := [(.aload_n 0, 1, 0, 0, []), (.aload_n 0, 1, 0, 0, []), (.getfield 43, 3, 0, 158, []), (.getfield 130, 3, 0, 30, []), (.iload_n 1, 1, 0, 1, []), (.iaload, 1, 0, 0, []), (.aload_n 0, 1, 0, 0, []), (.getfield 43, 3, 0, 158, []), (.getfield 146, 3, 0, 31, []), (.iload_n 1, 1, 0, 1, []), (.iaload, 1, 0, 0, []), (.invokevirtual 149, 3, 2, 104, [(0, 0), (0, 0), (0, 0), (0, 0), (0, 0)]), (.goto 37, 3, 0, 194, [])]
def KX4_obey_160 : List RI := [(.aload_n 0, 1, 0, 0, []), (.getfield 43, 3, 0, 158, []), (.getfield 139, 3, 0, 33, []), (.iload_n 1, 1, 0, 1, []), (.aaload, 1, 0, 0, []), (.ifnull 25, 3, 0, 194, [])]
def KX4_obey_172 : List RI := [(.aload_n 0, 1, 0, 0, []), (.aload_n 0, 1, 0, 0, []), (.getfield 43, 3, 0, 158, []), (.getfield 130, 3, 0, 30, []), (.iload_n 1, 1, 0, 1, []), (.iaload, 1, 0, 0, []), (.aload_n 0, 1, 0, 0, []), (.getfield 43, 3, 0, 158, []), (.getfield 139, 3, 0, 33, []), (.iload_n 1, 1, 0, 1, []), (.aaload, 1, 0, 0, []), (.invokevirtual 153, 3, 2, 105, [(0, 0), (0, 0), (0, 0), (0, 0), (0, 0)])]
def KX4_obey_194 : List RI := [(.return_, 1, 0, 0, [])]
def KX4_obey : RB := [(0, KX4_obey_0), (7, KX4_obey_7), (21, KX4_obey_21), (27, KX4_obey_27), (66, KX4_obey_66), (70, KX4_obey_70), (93, KX4_obey_93), (121, KX4_obey_121), (135, KX4_obey_135), (160, KX4_obey_160), (172, KX4_obey_172), (194, KX4_obey_194)]
def rX4_obey : CmC := (yX4_obey, cX4_obey, 3, none, 0, 5, false)
theorem hX4_obey : mtC[95]? = some rX4_obey := rfl
set_option maxRecDepth 100000 in
theorem okX4_obey : cokMC rX4_obey KX4_obey = true := cokMC_of [] (fun _ h => absurd h List.not_mem_nil) (by decide +kernel) (by decide +kernel)
def KX4_work_0 : List RI := [(.iload_n 1, 1, 0, 1, []), (.tableswitch 164 0 8 #[51, 62, 164, 82, 104, 130, 122, 148, 156], 51, 0, 165, [(0, 52), (1, 63), (2, 165), (3, 83), (4, 105), (5, 131), (6, 123), (7, 149), (8, 157)])]
def KX4_work_52 : List RI := [(.aload_n 0, 1, 0, 0, []), (.aload_n 2, 1, 0, 2, []), (.getfield 157, 3, 0, 71, []), (.invokevirtual 97, 3, 1, 91, [(0, 0), (0, 0), (0, 0), (0, 0), (0, 0)]), (.goto 105, 3, 0, 165, [])]
def KX4_work_63 : List RI := [(.aload_n 0, 1, 0, 0, []), (.aload_n 0, 1, 0, 0, []), (.getfield 9, 3, 0, 150, []), (.aload_n 0, 1, 0, 0, []), (.aload_n 2, 1, 0, 2, []), (.getfield 162, 3, 0, 67, []), (.invokevirtual 165, 3, 1, 93, [(0, 0), (0, 0), (0, 0), (0, 0), (0, 0)]), (.laload, 1, 0, 0, []), (.invokevirtual 97, 3, 1, 91, [(0, 0), (0, 0), (0, 0), (0, 0), (0, 0)]), (.goto 85, 3, 0, 165, [])]
def KX4_work_83 : List RI := [(.aload_n 0, 1, 0, 0, []), (.aload_n 2, 1, 0, 2, []), (.getfield 169, 3, 0, 61, []), (.aload_n 2, 1, 0, 2, []), (.getfield 172, 3, 0, 68, []), (.aload_n 0, 1, 0, 0, []), (.invokevirtual 173, 3, 0, 92, [(0, 0), (0, 0), (0, 0), (0, 0), (0, 0)]), (.invokestatic 177, 3, 3, 232, []), (.invokevirtual 97, 3, 1, 91, [(0, 0), (0, 0), (0, 0), (0, 0), (0, 0)]), (.goto 63, 3, 0, 165, [])]
def KX4_work_105 : List RI := [(.aload_n 0, 1, 0, 0, []), (.aload_n 2, 1, 0, 2, []), (.getfield 172, 3, 0, 68, []), (.aload_n 0, 1, 0, 0, []), (.invokevirtual 173, 3, 0, 92, [(0, 0), (0, 0), (0, 0), (0, 0), (0, 0)]), (.invokestatic 93, 3, 2, 228, []), (.invokevirtual 97, 3, 1, 91, [(0, 0), (0, 0), (0, 0), (0, 0), (0, 0)]), (.goto 45, 3, 0, 165, [])]
def KX4_work_123 : List RI := [(.aload_n 0, 1, 0, 0, []), (.aload_n 2, 1, 0, 2, []), (.invokevirtual 181, 3, 1, 98, [(0, 0), (0, 0), (0, 0), (0, 0), (0, 0)]), (.goto 37, 3, 0, 165, [])]
def KX4_work_131 : List RI := [(.aload_n 0, 1, 0, 0, []), (.invokevirtual 173, 3, 0, 92, [(0, 0), (0, 0), (0, 0), (0, 0), (0, 0)]), (.lstore_n 3, 1, 0, 3, []), (.aload_n 0, 1, 0, 0, []), (.aload_n 2, 1, 0, 2, []), (.aload_n 0, 1, 0, 0, []), (.invokevirtual 173, 3, 0, 92, [(0, 0), (0, 0), (0, 0), (0, 0), (0, 0)]), (.lload_n 3, 1, 0, 3, []), (.invokevirtual 185, 3, 3, 97, [(0, 0), (0, 0), (0, 0), (0, 0), (0, 0)]), (.goto 19, 3, 0, 165, [])]
def KX4_work_149 : List RI := [(.aload_n 0, 1, 0, 0, []), (.aload_n 2, 1, 0, 2, []), (.invokevirtual 189, 3, 1, 99, [(0, 0), (0, 0), (0, 0), (0, 0), (0, 0)]), (.goto 11, 3, 0, 165, [])]
def KX4_work_157 : List RI := [(.aload_n 0, 1, 0, 0, []), (.aload_n 2, 1, 0, 2, []), (.invokevirtual 192, 3, 1, 100, [(0, 0), (0, 0), (0, 0), (0, 0), (0, 0)]), (.goto 3, 3, 0, 165, [])]
def KX4_work_165 : List RI := [(.return_, 1, 0, 0, [])]
def KX4_work : RB := [(0, KX4_work_0), (52, KX4_work_52), (63, KX4_work_63), (83, KX4_work_83), (105, KX4_work_105), (123, KX4_work_123), (131, KX4_work_131), (149, KX4_work_149), (157, KX4_work_157), (165, KX4_work_165)]
def rX4_work : CmC := (yX4_work, cX4_work, 5, none, 2, 5, false)
theorem hX4_work : mtC[96]? = some rX4_work := rfl
set_option maxRecDepth 100000 in
theorem swX4_work_1 : decode cX4_work 1 = .ok (.tableswitch 164 0 8 #[51, 62, 164, 82, 104, 130, 122, 148, 156], 51) := by decide +kernel
set_option maxRecDepth 100000 in
theorem okX4_work : cokMC rX4_work KX4_work = true := cokMC_of [(1, .tableswitch 164 0 8 #[51, 62, 164, 82, 104, 130, 122, 148, 156], 51)] (fun q hq => by
  obtain rfl := List.mem_singleton.mp hq
  exact swX4_work_1) (by decide +kernel) (by decide +kernel)
def KX4_operate_0 : List RI := [(.aload_n 1, 1, 0, 1, []), (.getfield 169, 3, 0, 61, []), (.invokestatic 195, 3, 1, 227, []), (.ifCond .eq 19, 3, 0, 26, [])]
def KX4_operate_10 : List RI := [(.lload 4, 2, 0, 0, []), (.lconst 0, 1, 0, 0, []), (.lcmp, 1, 0, 0, []), (.ifCond .ne 12, 3, 0, 26, [])]
def KX4_operate_17 : List RI := [(.aload_n 0, 1, 0, 0, []), (.bipush 7, 2, 0, 0, []), (.putfield 79, 3, 0, 169, []), (.goto 21, 3, 0, 44, [])]
def KX4_operate_26 : List RI := [(.aload_n 0, 1, 0, 0, []), (.aload_n 1, 1, 0, 1, []), (.getfield 169, 3, 0, 61, []), (.aload_n 1, 1, 0, 1, []), (.getfield 199, 3, 0, 69, []), (.lload_n 2, 1, 0, 2, []), (.lload 4, 2, 0, 0, []), (.invokestatic 201, 3, 4, 229, []), (.invokevirtual 97, 3, 1, 91, [(0, 0), (0, 0), (0, 0), (0, 0), (0, 0)])]
def KX4_operate_44 : List RI := [(.return_, 1, 0, 0, [])]
def KX4_operate : RB := [(0, KX4_operate_0), (10, KX4_operate_10), (17, KX4_operate_17), (26, KX4_operate_26), (44, KX4_operate_44)]
def rX4_operate : CmC := (yX4_operate, cX4_operate, 6, none, 3, 5, false)
theorem hX4_operate : mtC[97]? = some rX4_operate := rfl
set_option maxRecDepth 100000 in
theorem okX4_operate : cokMC rX4_operate KX4_operate = true := cokMC_of [] (fun _ h => absurd h List.not_mem_nil) (by decide +kernel) (by decide +kernel)
def KX4_count_0 : List RI := [(.aload_n 0, 1, 0, 0, []), (.aload_n 1, 1, 0, 1, []), (.getfield 162, 3, 0, 67, []), (.invokevirtual 165, 3, 1, 93, [(0, 0), (0, 0), (0, 0), (0, 0), (0, 0)]), (.istore_n 2, 1, 0, 2, []), (.aload_n 0, 1, 0, 0, []), (.getfield 9, 3, 0, 150, []), (.iload_n 2, 1, 0, 2, []), (.laload, 1, 0, 0, []), (.lstore_n 3, 1, 0, 3, []), (.aload_n 0, 1, 0, 0, []), (.getfield 9, 3, 0, 150, []), (.iload_n 2, 1, 0, 2, []), (.aload_n 1, 1, 0, 1, []), (.getfield 172, 3, 0, 68, []), (.aload_n 1, 1, 0, 1, []), (.getfield 169, 3, 0, 61, []), (.bipush 41, 2, 0, 0, []), (.if_icmp .ne 9, 3, 0, 40, [])]
def KX4_count_34 : List RI := [(.lload_n 3, 1, 0, 3, []), (.lconst 1, 1, 0, 0, []), (.ladd, 1, 0, 0, []), (.goto 6, 3, 0, 43, [])]
def KX4_count_40 : List RI := [(.lload_n 3, 1, 0, 3, []), (.lconst 1, 1, 0, 0, []), (.lsub, 1, 0, 0, [])]
def KX4_count_43 : List RI := [(.invokestatic 93, 3, 2, 228, []), (.lastore, 1, 0, 0, []), (.aload_n 0, 1, 0, 0, []), (.aload_n 1, 1, 0, 1, []), (.getfield 205, 3, 0, 66, []), (.aload_n 1, 1, 0, 1, []), (.getfield 208, 3, 0, 62, []), (.if_icmp .ne 7, 3, 0, 63, [])]
def KX4_count_59 : List RI := [(.lload_n 3, 1, 0, 3, []), (.goto 9, 3, 0, 69, [])]
def KX4_count_63 : List RI := [(.aload_n 0, 1, 0, 0, []), (.getfield 9, 3, 0, 150, []), (.iload_n 2, 1, 0, 2, []), (.laload, 1, 0, 0, [])]
def KX4_count_69 : List RI := [(.invokevirtual 97, 3, 1, 91, [(0, 0), (0, 0), (0, 0), (0, 0), (0, 0)]), (.return_, 1, 0, 0, [])]
def KX4_count : RB := [(0, KX4_count_0), (34, KX4_count_34), (40, KX4_count_40), (43, KX4_count_43), (59, KX4_count_59), (63, KX4_count_63), (69, KX4_count_69)]
def rX4_count : CmC := (yX4_count, cX4_count, 5, none, 1, 5, false)
theorem hX4_count : mtC[98]? = some rX4_count := rfl
set_option maxRecDepth 100000 in
theorem okX4_count : cokMC rX4_count KX4_count = true := cokMC_of [] (fun _ h => absurd h List.not_mem_nil) (by decide +kernel) (by decide +kernel)
def KX4_assign_0 : List RI := [(.aload_n 0, 1, 0, 0, []), (.invokevirtual 173, 3, 0, 92, [(0, 0), (0, 0), (0, 0), (0, 0), (0, 0)]), (.lstore_n 2, 1, 0, 2, []), (.aload_n 1, 1, 0, 1, []), (.getfield 169, 3, 0, 61, []), (.bipush 8, 2, 0, 0, []), (.if_icmp .ne 23, 3, 0, 34, [])]
def KX4_assign_14 : List RI := [(.aload_n 0, 1, 0, 0, []), (.getfield 9, 3, 0, 150, []), (.aload_n 0, 1, 0, 0, []), (.aload_n 1, 1, 0, 1, []), (.getfield 162, 3, 0, 67, []), (.invokevirtual 165, 3, 1, 93, [(0, 0), (0, 0), (0, 0), (0, 0), (0, 0)]), (.lload_n 2, 1, 0, 2, []), (.lastore, 1, 0, 0, []), (.aload_n 0, 1, 0, 0, []), (.lload_n 2, 1, 0, 2, []), (.invokevirtual 97, 3, 1, 91, [(0, 0), (0, 0), (0, 0), (0, 0), (0, 0)]), (.return_, 1, 0, 0, [])]
def KX4_assign_34 : List RI := [(.aload_n 0, 1, 0, 0, []), (.invokevirtual 173, 3, 0, 92, [(0, 0), (0, 0), (0, 0), (0, 0), (0, 0)]), (.lstore 4, 2, 0, 0, []), (.aload_n 1, 1, 0, 1, []), (.getfield 169, 3, 0, 61, []), (.invokestatic 195, 3, 1, 227, []), (.ifCond .eq 16, 3, 0, 63, [])]
def KX4_assign_50 : List RI := [(.lload_n 2, 1, 0, 2, []), (.lconst 0, 1, 0, 0, []), (.lcmp, 1, 0, 0, []), (.ifCond .ne 10, 3, 0, 63, [])]
def KX4_assign_56 : List RI := [(.aload_n 0, 1, 0, 0, []), (.bipush 7, 2, 0, 0, []), (.putfield 79, 3, 0, 169, []), (.return_, 1, 0, 0, [])]
def KX4_assign_63 : List RI := [(.aload_n 1, 1, 0, 1, []), (.getfield 172, 3, 0, 68, []), (.aload_n 1, 1, 0, 1, []), (.getfield 169, 3, 0, 61, []), (.aload_n 1, 1, 0, 1, []), (.getfield 199, 3, 0, 69, []), (.lload 4, 2, 0, 0, []), (.lload_n 2, 1, 0, 2, []), (.invokestatic 201, 3, 4, 229, []), (.invokestatic 93, 3, 2, 228, []), (.lstore 6, 2, 0, 0, []), (.aload_n 0, 1, 0, 0, []), (.getfield 9, 3, 0, 150, []), (.aload_n 0, 1, 0, 0, []), (.aload_n 1, 1, 0, 1, []), (.getfield 162, 3, 0, 67, []), (.invokevirtual 165, 3, 1, 93, [(0, 0), (0, 0), (0, 0), (0, 0), (0, 0)]), (.lload 6, 2, 0, 0, []), (.lastore, 1, 0, 0, []), (.aload_n 0, 1, 0, 0, []), (.lload 6, 2, 0, 0, []), (.invokevirtual 97, 3, 1, 91, [(0, 0), (0, 0), (0, 0), (0, 0), (0, 0)]), (.return_, 1, 0, 0, [])]
def KX4_assign : RB := [(0, KX4_assign_0), (14, KX4_assign_14), (34, KX4_assign_34), (50, KX4_assign_50), (56, KX4_assign_56), (63, KX4_assign_63)]
def rX4_assign : CmC := (yX4_assign, cX4_assign, 8, none, 1, 5, false)
theorem hX4_assign : mtC[99]? = some rX4_assign := rfl
set_option maxRecDepth 100000 in
theorem okX4_assign : cokMC rX4_assign KX4_assign = true := cokMC_of [] (fun _ h => absurd h List.not_mem_nil) (by decide +kernel) (by decide +kernel)
def KX4_call_0 : List RI := [(.aload_n 0, 1, 0, 0, []), (.getfield 43, 3, 0, 158, []), (.getfield 211, 3, 0, 35, []), (.aload_n 1, 1, 0, 1, []), (.getfield 162, 3, 0, 67, []), (.invokevirtual 215, 3, 1, 119, [(0, 0), (0, 0), (0, 0), (0, 0), (0, 0), (0, 0), (0, 0)]), (.astore_n 2, 1, 0, 2, []), (.aload_n 2, 1, 0, 2, []), (.ifnull 10, 3, 0, 26, [])]
def KX4_call_19 : List RI := [(.aload_n 0, 1, 0, 0, []), (.invokevirtual 101, 3, 0, 94, [(0, 0), (0, 0), (0, 0), (0, 0), (0, 0)]), (.ifCond .ne 4, 3, 0, 27, [])]
def KX4_call_26 : List RI := [(.return_, 1, 0, 0, [])]
def KX4_call_27 : List RI := [(.aload_n 1, 1, 0, 1, []), (.getfield 162, 3, 0, 67, []), (.bipush 10, 2, 0, 0, []), (.if_icmp .eq 20, 3, 0, 53, [])]
def KX4_call_36 : List RI := [(.aload_n 1, 1, 0, 1, []), (.getfield 162, 3, 0, 67, []), (.bipush 11, 2, 0, 0, []), (.if_icmp .eq 11, 3, 0, 53, [])]
def KX4_call_45 : List RI := [(.aload_n 0, 1, 0, 0, []), (.aload_n 2, 1, 0, 2, []), (.invokevirtual 105, 3, 1, 102, [(0, 0), (0, 0), (0, 0), (0, 0), (0, 0)]), (.goto 79, 3, 0, 129, [])]
def KX4_call_53 : List RI := [(.aload_n 0, 1, 0, 0, []), (.getfield 60, 3, 0, 163, []), (.bipush 30, 2, 0, 0, []), (.if_icmp .lt 11, 3, 0, 70, [])]
def KX4_call_62 : List RI := [(.aload_n 0, 1, 0, 0, []), (.iconst 4, 1, 0, 0, []), (.putfield 79, 3, 0, 169, []), (.goto 62, 3, 0, 129, [])]
def KX4_call_70 : List RI := [(.aload_n 1, 1, 0, 1, []), (.getfield 162, 3, 0, 67, []), (.bipush 10, 2, 0, 0, []), (.if_icmp .ne 14, 3, 0, 90, [])]
def KX4_call_79 : List RI := [(.aload_n 0, 1, 0, 0, []), (.aload_n 0, 1, 0, 0, []), (.invokevirtual 173, 3, 0, 92, [(0, 0), (0, 0), (0, 0), (0, 0), (0, 0)]), (.invokevirtual 221, 3, 1, 101, [(0, 0), (0, 0), (0, 0), (0, 0), (0, 0)]), (.goto 42, 3, 0, 129, [])]
def KX4_call_90 : List RI := [(.aload_n 0, 1, 0, 0, []), (.aload_n 0, 1, 0, 0, []), (.getfield 69, 3, 0, 167, []), (.aload_n 0, 1, 0, 0, []), (.getfield 53, 3, 0, 160, []), (.if_icmp .ge 16, 3, 0, 115, [])]
def KX4_call_102 : List RI := [(.aload_n 0, 1, 0, 0, []), (.getfield 40, 3, 0, 159, []), (.aload_n 0, 1, 0, 0, []), (.getfield 69, 3, 0, 167, []), (.iaload, 1, 0, 0, []), (.i2l, 1, 0, 0, []), (.goto 4, 3, 0, 116, [])]
def KX4_call_115 : List RI := [(.lconst 0, 1, 0, 0, [])]
def KX4_call_116 : List RI := [(.invokevirtual 97, 3, 1, 91, [(0, 0), (0, 0), (0, 0), (0, 0), (0, 0)]), (.aload_n 0, 1, 0, 0, []), (.dup, 1, 0, 0, []), (.getfield 69, 3, 0, 167, []), (.iconst 1, 1, 0, 0, []), (.iadd, 1, 0, 0, []), (.putfield 69, 3, 0, 167, [])]
def KX4_call_129 : List RI := [(.return_, 1, 0, 0, [])]
def KX4_call : RB := [(0, KX4_call_0), (19, KX4_call_19), (26, KX4_call_26), (27, KX4_call_27), (36, KX4_call_36), (45, KX4_call_45), (53, KX4_call_53), (62, KX4_call_62), (70, KX4_call_70), (79, KX4_call_79), (90, KX4_call_90), (102, KX4_call_102), (115, KX4_call_115), (116, KX4_call_116), (129, KX4_call_129)]
def rX4_call : CmC := (yX4_call, cX4_call, 3, none, 1, 5, false)
theorem hX4_call : mtC[100]? = some rX4_call := rfl
set_option maxRecDepth 100000 in
theorem okX4_call : cokMC rX4_call KX4_call = true := cokMC_of [] (fun _ h => absurd h List.not_mem_nil) (by decide +kernel) (by decide +kernel)
def KX4_tellNumber_0 : List RI := [(.aload_n 0, 1, 0, 0, []), (.getfield 66, 3, 0, 166, []), (.sipush 200, 3, 0, 0, []), (.if_icmp .lt 9, 3, 0, 16, [])]
def KX4_tellNumber_10 : List RI := [(.aload_n 0, 1, 0, 0, []), (.iconst 5, 1, 0, 0, []), (.putfield 79, 3, 0, 169, []), (.return_, 1, 0, 0, [])]
def KX4_tellNumber_16 : List RI := [(.aload_n 0, 1, 0, 0, []), (.getfield 37, 3, 0, 157, []), (.aload_n 0, 1, 0, 0, []), (.getfield 66, 3, 0, 166, []), (.lload_n 1, 1, 0, 1, []), (.lastore, 1, 0, 0, []), (.aload_n 0, 1, 0, 0, []), (.dup, 1, 0, 0, []), (.getfield 66, 3, 0, 166, []), (.iconst 1, 1, 0, 0, []), (.iadd, 1, 0, 0, []), (.putfield 66, 3, 0, 166, []), (.aload_n 0, 1, 0, 0, []), (.lconst 0, 1, 0, 0, []), (.invokevirtual 97, 3, 1, 91, [(0, 0), (0, 0), (0, 0), (0, 0), (0, 0)]), (.return_, 1, 0, 0, [])]
def KX4_tellNumber : RB := [(0, KX4_tellNumber_0), (10, KX4_tellNumber_10), (16, KX4_tellNumber_16)]
def rX4_tellNumber : CmC := (yX4_tellNumber, cX4_tellNumber, 3, none, 1, 5, false)
theorem hX4_tellNumber : mtC[101]? = some rX4_tellNumber := rfl
set_option maxRecDepth 100000 in
theorem okX4_tellNumber : cokMC rX4_tellNumber KX4_tellNumber = true := cokMC_of [] (fun _ h => absurd h List.not_mem_nil) (by decide +kernel) (by decide +kernel)
def KX4_enter_0 : List RI := [(.aload_n 0, 1, 0, 0, []), (.getfield 60, 3, 0, 163, []), (.bipush 30, 2, 0, 0, []), (.if_icmp .lt 9, 3, 0, 15, [])]
def KX4_enter_9 : List RI := [(.aload_n 0, 1, 0, 0, []), (.iconst 4, 1, 0, 0, []), (.putfield 79, 3, 0, 169, []), (.return_, 1, 0, 0, [])]
def KX4_enter_15 : List RI := [(.aload_n 0, 1, 0, 0, []), (.getfield 22, 3, 0, 153, []), (.aload_n 0, 1, 0, 0, []), (.getfield 60, 3, 0, 163, []), (.aload_n 0, 1, 0, 0, []), (.getfield 118, 3, 0, 161, []), (.iastore, 1, 0, 0, []), (.aload_n 0, 1, 0, 0, []), (.dup, 1, 0, 0, []), (.getfield 60, 3, 0, 163, []), (.iconst 1, 1, 0, 0, []), (.iadd, 1, 0, 0, []), (.putfield 60, 3, 0, 163, []), (.aload_n 1, 1, 0, 1, []), (.getfield 85, 3, 0, 185, []), (.iconst 1, 1, 0, 0, []), (.isub, 1, 0, 0, []), (.istore_n 2, 1, 0, 2, [])]
def KX4_enter_45 : List RI := [(.iload_n 2, 1, 0, 2, []), (.ifCond .lt 28, 3, 0, 74, [])]
def KX4_enter_49 : List RI := [(.aload_n 0, 1, 0, 0, []), (.getfield 9, 3, 0, 150, []), (.aload_n 0, 1, 0, 0, []), (.aload_n 1, 1, 0, 1, []), (.getfield 224, 3, 0, 184, []), (.iload_n 2, 1, 0, 2, []), (.iadd, 1, 0, 0, []), (.invokevirtual 165, 3, 1, 93, [(0, 0), (0, 0), (0, 0), (0, 0), (0, 0)]), (.aload_n 0, 1, 0, 0, []), (.invokevirtual 173, 3, 0, 92, [(0, 0), (0, 0), (0, 0), (0, 0), (0, 0)]), (.lastore, 1, 0, 0, []), (.iinc 2 (-1), 3, 0, 0, []), (.goto (-26), 3, 0, 45, [])]
def KX4_enter_74 : List RI := [(.aload_n 0, 1, 0, 0, []), (.getfield 18, 3, 0, 152, []), (.aload_n 0, 1, 0, 0, []), (.getfield 60, 3, 0, 163, []), (.aload_n 0, 1, 0, 0, []), (.getfield 57, 3, 0, 162, []), (.iastore, 1, 0, 0, []), (.aload_n 0, 1, 0, 0, []), (.aload_n 1, 1, 0, 1, []), (.getfield 227, 3, 0, 186, []), (.getfield 231, 3, 0, 289, []), (.putfield 118, 3, 0, 161, []), (.return_, 1, 0, 0, [])]
def KX4_enter : RB := [(0, KX4_enter_0), (9, KX4_enter_9), (15, KX4_enter_15), (45, KX4_enter_45), (49, KX4_enter_49), (74, KX4_enter_74)]
def rX4_enter : CmC := (yX4_enter, cX4_enter, 3, none, 1, 5, false)
theorem hX4_enter : mtC[102]? = some rX4_enter := rfl
set_option maxRecDepth 100000 in
theorem okX4_enter : cokMC rX4_enter KX4_enter = true := cokMC_of [] (fun _ h => absurd h List.not_mem_nil) (by decide +kernel) (by decide +kernel)
def KX4_leaveCall_0 : List RI := [(.aload_n 0, 1, 0, 0, []), (.getfield 60, 3, 0, 163, []), (.ifCond .gt 9, 3, 0, 13, [])]
def KX4_leaveCall_7 : List RI := [(.aload_n 0, 1, 0, 0, []), (.iconst 0, 1, 0, 0, []), (.putfield 79, 3, 0, 169, []), (.return_, 1, 0, 0, [])]
def KX4_leaveCall_13 : List RI := [(.aload_n 0, 1, 0, 0, []), (.aload_n 0, 1, 0, 0, []), (.getfield 18, 3, 0, 152, []), (.aload_n 0, 1, 0, 0, []), (.getfield 60, 3, 0, 163, []), (.iaload, 1, 0, 0, []), (.putfield 57, 3, 0, 162, []), (.aload_n 0, 1, 0, 0, []), (.dup, 1, 0, 0, []), (.getfield 60, 3, 0, 163, []), (.iconst 1, 1, 0, 0, []), (.isub, 1, 0, 0, []), (.putfield 60, 3, 0, 163, []), (.aload_n 0, 1, 0, 0, []), (.aload_n 0, 1, 0, 0, []), (.getfield 22, 3, 0, 153, []), (.aload_n 0, 1, 0, 0, []), (.getfield 60, 3, 0, 163, []), (.iaload, 1, 0, 0, []), (.putfield 118, 3, 0, 161, []), (.aload_n 0, 1, 0, 0, []), (.getfield 60, 3, 0, 163, []), (.ifCond .ne 16, 3, 0, 69, [])]
def KX4_leaveCall_56 : List RI := [(.aload_n 0, 1, 0, 0, []), (.iconst 0, 1, 0, 0, []), (.putfield 79, 3, 0, 169, []), (.aload_n 0, 1, 0, 0, []), (.lload_n 1, 1, 0, 1, []), (.putfield 75, 3, 0, 170, []), (.goto 8, 3, 0, 74, [])]
def KX4_leaveCall_69 : List RI := [(.aload_n 0, 1, 0, 0, []), (.lload_n 1, 1, 0, 1, []), (.invokevirtual 97, 3, 1, 91, [(0, 0), (0, 0), (0, 0), (0, 0), (0, 0)])]
def KX4_leaveCall_74 : List RI := [(.return_, 1, 0, 0, [])]
def KX4_leaveCall : RB := [(0, KX4_leaveCall_0), (7, KX4_leaveCall_7), (13, KX4_leaveCall_13), (56, KX4_leaveCall_56), (69, KX4_leaveCall_69), (74, KX4_leaveCall_74)]
def rX4_leaveCall : CmC := (yX4_leaveCall, cX4_leaveCall, 3, none, 1, 5, false)
theorem hX4_leaveCall : mtC[103]? = some rX4_leaveCall := rfl
set_option maxRecDepth 100000 in
theorem okX4_leaveCall : cokMC rX4_leaveCall KX4_leaveCall = true := cokMC_of [] (fun _ h => absurd h List.not_mem_nil) (by decide +kernel) (by decide +kernel)
def KX4_move_0 : List RI := [(.iload_n 1, 1, 0, 1, []), (.tableswitch 140 2 12 #[59, 140, 140, 140, 140, 140, 140, 76, 84, 92, 116], 59, 0, 141, [(2, 60), (3, 141), (4, 141), (5, 141), (6, 141), (7, 141), (8, 141), (9, 77), (10, 85), (11, 93), (12, 117)])]
def KX4_move_60 : List RI := [(.aload_n 0, 1, 0, 0, []), (.getfield 9, 3, 0, 150, []), (.aload_n 0, 1, 0, 0, []), (.iload_n 2, 1, 0, 2, []), (.invokevirtual 165, 3, 1, 93, [(0, 0), (0, 0), (0, 0), (0, 0), (0, 0)]), (.aload_n 0, 1, 0, 0, []), (.invokevirtual 173, 3, 0, 92, [(0, 0), (0, 0), (0, 0), (0, 0), (0, 0)]), (.lastore, 1, 0, 0, []), (.goto 107, 3, 0, 181, [])]
def KX4_move_77 : List RI := [(.aload_n 0, 1, 0, 0, []), (.invokevirtual 173, 3, 0, 92, [(0, 0), (0, 0), (0, 0), (0, 0), (0, 0)]), (.pop2, 1, 0, 0, []), (.goto 99, 3, 0, 181, [])]
def KX4_move_85 : List RI := [(.aload_n 0, 1, 0, 0, []), (.iload_n 2, 1, 0, 2, []), (.putfield 118, 3, 0, 161, []), (.goto 91, 3, 0, 181, [])]
def KX4_move_93 : List RI := [(.aload_n 0, 1, 0, 0, []), (.aload_n 0, 1, 0, 0, []), (.invokevirtual 173, 3, 0, 92, [(0, 0), (0, 0), (0, 0), (0, 0), (0, 0)]), (.lconst 0, 1, 0, 0, []), (.lcmp, 1, 0, 0, []), (.ifCond .ne 7, 3, 0, 107, [])]
def KX4_move_103 : List RI := [(.iload_n 2, 1, 0, 2, []), (.goto 7, 3, 0, 111, [])]
def KX4_move_107 : List RI := [(.aload_n 0, 1, 0, 0, []), (.getfield 118, 3, 0, 161, [])]
def KX4_move_111 : List RI := [(.putfield 118, 3, 0, 161, []), (.goto 67, 3, 0, 181, [])]
def KX4_move_117 : List RI := [(.aload_n 0, 1, 0, 0, []), (.aload_n 0, 1, 0, 0, []), (.invokevirtual 173, 3, 0, 92, [(0, 0), (0, 0), (0, 0), (0, 0), (0, 0)]), (.lconst 0, 1, 0, 0, []), (.lcmp, 1, 0, 0, []), (.ifCond .eq 7, 3, 0, 131, [])]
def KX4_move_127 : List RI := [(.iload_n 2, 1, 0, 2, []), (.goto 7, 3, 0, 135, [])]
def KX4_move_131 : List RI := [(.aload_n 0, 1, 0, 0, []), (.getfield 118, 3, 0, 161, [])]
def KX4_move_135 : List RI := [(.putfield 118, 3, 0, 161, []), (.goto 43, 3, 0, 181, [])]
def KX4_move_141 : List RI := [(.aload_n 0, 1, 0, 0, []), (.invokevirtual 173, 3, 0, 92, [(0, 0), (0, 0), (0, 0), (0, 0), (0, 0)]), (.lstore_n 3, 1, 0, 3, []), (.lload_n 3, 1, 0, 3, []), (.lconst 0, 1, 0, 0, []), (.lcmp, 1, 0, 0, []), (.ifCond .ne 7, 3, 0, 156, [])]
def KX4_move_152 : List RI := [(.iconst 1, 1, 0, 0, []), (.goto 4, 3, 0, 157, [])]
def KX4_move_156 : List RI := [(.iconst 0, 1, 0, 0, [])]
def KX4_move_157 : List RI := [(.iload_n 1, 1, 0, 1, []), (.bipush 13, 2, 0, 0, []), (.if_icmp .ne 7, 3, 0, 167, [])]
def KX4_move_163 : List RI := [(.iconst 1, 1, 0, 0, []), (.goto 4, 3, 0, 168, [])]
def KX4_move_167 : List RI := [(.iconst 0, 1, 0, 0, [])]
def KX4_move_168 : List RI := [(.if_icmp .ne 13, 3, 0, 181, [])]
def KX4_move_171 : List RI := [(.aload_n 0, 1, 0, 0, []), (.lload_n 3, 1, 0, 3, []), (.invokevirtual 97, 3, 1, 91, [(0, 0), (0, 0), (0, 0), (0, 0), (0, 0)]), (.aload_n 0, 1, 0, 0, []), (.iload_n 2, 1, 0, 2, []), (.putfield 118, 3, 0, 161, [])]
def KX4_move_181 : List RI := [(.return_, 1, 0, 0, [])]
def KX4_move : RB := [(0, KX4_move_0), (60, KX4_move_60), (77, KX4_move_77), (85, KX4_move_85), (93, KX4_move_93), (103, KX4_move_103), (107, KX4_move_107), (111, KX4_move_111), (117, KX4_move_117), (127, KX4_move_127), (131, KX4_move_131), (135, KX4_move_135), (141, KX4_move_141), (152, KX4_move_152), (156, KX4_move_156), (157, KX4_move_157), (163, KX4_move_163), (167, KX4_move_167), (168, KX4_move_168), (171, KX4_move_171), (181, KX4_move_181)]
def rX4_move : CmC := (yX4_move, cX4_move, 5, none, 2, 5, false)
theorem hX4_move : mtC[104]? = some rX4_move := rfl
set_option maxRecDepth 100000 in
theorem swX4_move_1 : decode cX4_move 1 = .ok (.tableswitch 140 2 12 #[59, 140, 140, 140, 140, 140, 140, 76, 84, 92, 116], 59) := by decide +kernel
set_option maxRecDepth 100000 in
theorem okX4_move : cokMC rX4_move KX4_move = true := cokMC_of [(1, .tableswitch 140 2 12 #[59, 140, 140, 140, 140, 140, 140, 76, 84, 92, 116], 59)] (fun q hq => by
  obtain rfl := List.mem_singleton.mp hq
  exact swX4_move_1) (by decide +kernel) (by decide +kernel)
def KX4_control_0 : List RI := [(.iload_n 1, 1, 0, 1, []), (.tableswitch 198 15 22 #[47, 65, 73, 85, 102, 128, 143, 157], 47, 0, 199, [(15, 48), (16, 66), (17, 74), (18, 86), (19, 103), (20, 129), (21, 144), (22, 158)])]
def KX4_control_48 : List RI := [(.aload_n 0, 1, 0, 0, []), (.invokevirtual 101, 3, 0, 94, [(0, 0), (0, 0), (0, 0), (0, 0), (0, 0)]), (.ifCond .eq 152, 3, 0, 204, [])]
def KX4_control_55 : List RI := [(.aload_n 0, 1, 0, 0, []), (.aload_n 2, 1, 0, 2, []), (.getfield 234, 3, 0, 271, []), (.putfield 72, 3, 0, 168, []), (.goto 141, 3, 0, 204, [])]
def KX4_control_66 : List RI := [(.aload_n 0, 1, 0, 0, []), (.invokevirtual 101, 3, 0, 94, [(0, 0), (0, 0), (0, 0), (0, 0), (0, 0)]), (.pop, 1, 0, 0, []), (.goto 133, 3, 0, 204, [])]
def KX4_control_74 : List RI := [(.aload_n 0, 1, 0, 0, []), (.aload_n 2, 1, 0, 2, []), (.aload_n 0, 1, 0, 0, []), (.invokevirtual 173, 3, 0, 92, [(0, 0), (0, 0), (0, 0), (0, 0), (0, 0)]), (.invokevirtual 235, 3, 2, 107, [(0, 0), (0, 0), (0, 0), (0, 0), (0, 0)]), (.goto 121, 3, 0, 204, [])]
def KX4_control_86 : List RI := [(.aload_n 0, 1, 0, 0, []), (.aload_n 2, 1, 0, 2, []), (.getfield 239, 3, 0, 270, []), (.lconst 0, 1, 0, 0, []), (.aload_n 2, 1, 0, 2, []), (.aload_n 2, 1, 0, 2, []), (.getfield 242, 3, 0, 281, []), (.invokevirtual 142, 3, 4, 108, [(0, 0), (0, 0), (0, 0), (0, 0), (0, 0)]), (.goto 104, 3, 0, 204, [])]
def KX4_control_103 : List RI := [(.aload_n 0, 1, 0, 0, []), (.bipush 66, 2, 0, 0, []), (.aload_n 2, 1, 0, 2, []), (.getfield 244, 3, 0, 279, []), (.ifnonnull 7, 3, 0, 117, [])]
def KX4_control_113 : List RI := [(.lconst 0, 1, 0, 0, []), (.goto 7, 3, 0, 121, [])]
def KX4_control_117 : List RI := [(.aload_n 0, 1, 0, 0, []), (.invokevirtual 173, 3, 0, 92, [(0, 0), (0, 0), (0, 0), (0, 0), (0, 0)])]
def KX4_control_121 : List RI := [(.aload_n 2, 1, 0, 2, []), (.aconst_null, 1, 0, 0, []), (.invokevirtual 142, 3, 4, 108, [(0, 0), (0, 0), (0, 0), (0, 0), (0, 0)]), (.goto 78, 3, 0, 204, [])]
def KX4_control_129 : List RI := [(.aload_n 0, 1, 0, 0, []), (.bipush 67, 2, 0, 0, []), (.aload_n 0, 1, 0, 0, []), (.invokevirtual 173, 3, 0, 92, [(0, 0), (0, 0), (0, 0), (0, 0), (0, 0)]), (.aload_n 2, 1, 0, 2, []), (.aconst_null, 1, 0, 0, []), (.invokevirtual 142, 3, 4, 108, [(0, 0), (0, 0), (0, 0), (0, 0), (0, 0)]), (.goto 63, 3, 0, 204, [])]
def KX4_control_144 : List RI := [(.aload_n 0, 1, 0, 0, []), (.getfield 25, 3, 0, 154, []), (.aload_n 0, 1, 0, 0, []), (.aload_n 2, 1, 0, 2, []), (.invokevirtual 247, 3, 1, 106, [(0, 0), (0, 0), (0, 0), (0, 0), (0, 0)]), (.iconst 0, 1, 0, 0, []), (.iastore, 1, 0, 0, []), (.goto 49, 3, 0, 204, [])]
def KX4_control_158 : List RI := [(.aload_n 0, 1, 0, 0, []), (.aload_n 2, 1, 0, 2, []), (.invokevirtual 247, 3, 1, 106, [(0, 0), (0, 0), (0, 0), (0, 0), (0, 0)]), (.istore_n 3, 1, 0, 3, []), (.aload_n 0, 1, 0, 0, []), (.getfield 25, 3, 0, 154, []), (.iload_n 3, 1, 0, 3, []), (.iaload, 1, 0, 0, []), (.ifCond .eq 34, 3, 0, 204, [])]
def KX4_control_173 : List RI := [(.aload_n 0, 1, 0, 0, []), (.aload_n 0, 1, 0, 0, []), (.getfield 25, 3, 0, 154, []), (.iload_n 3, 1, 0, 3, []), (.iaload, 1, 0, 0, []), (.aload_n 0, 1, 0, 0, []), (.getfield 28, 3, 0, 155, []), (.iload_n 3, 1, 0, 3, []), (.laload, 1, 0, 0, []), (.aload_n 2, 1, 0, 2, []), (.aload_n 0, 1, 0, 0, []), (.getfield 33, 3, 0, 156, []), (.iload_n 3, 1, 0, 3, []), (.aaload, 1, 0, 0, []), (.invokevirtual 142, 3, 4, 108, [(0, 0), (0, 0), (0, 0), (0, 0), (0, 0)]), (.goto 8, 3, 0, 204, [])]
def KX4_control_199 : List RI := [(.aload_n 0, 1, 0, 0, []), (.lconst 0, 1, 0, 0, []), (.invokevirtual 251, 3, 1, 103, [(0, 0), (0, 0), (0, 0), (0, 0), (0, 0)])]
def KX4_control_204 : List RI := [(.return_, 1, 0, 0, [])]
def KX4_control : RB := [(0, KX4_control_0), (48, KX4_control_48), (55, KX4_control_55), (66, KX4_control_66), (74, KX4_control_74), (86, KX4_control_86), (103, KX4_control_103), (113, KX4_control_113), (117, KX4_control_117), (121, KX4_control_121), (129, KX4_control_129), (144, KX4_control_144), (158, KX4_control_158), (173, KX4_control_173), (199, KX4_control_199), (204, KX4_control_204)]
def rX4_control : CmC := (yX4_control, cX4_control, 4, none, 2, 5, false)
theorem hX4_control : mtC[105]? = some rX4_control := rfl
set_option maxRecDepth 100000 in
theorem swX4_control_1 : decode cX4_control 1 = .ok (.tableswitch 198 15 22 #[47, 65, 73, 85, 102, 128, 143, 157], 47) := by decide +kernel
set_option maxRecDepth 100000 in
theorem okX4_control : cokMC rX4_control KX4_control = true := cokMC_of [(1, .tableswitch 198 15 22 #[47, 65, 73, 85, 102, 128, 143, 157], 47)] (fun q hq => by
  obtain rfl := List.mem_singleton.mp hq
  exact swX4_control_1) (by decide +kernel) (by decide +kernel)
def KX4_way_0 : List RI := [(.aload_n 0, 1, 0, 0, []), (.getfield 60, 3, 0, 163, []), (.iconst 1, 1, 0, 0, []), (.isub, 1, 0, 0, []), (.bipush 21, 2, 0, 0, []), (.imul, 1, 0, 0, []), (.aload_n 1, 1, 0, 1, []), (.getfield 254, 3, 0, 272, []), (.iadd, 1, 0, 0, []), (.istore_n 2, 1, 0, 2, []), (.iload_n 2, 1, 0, 2, []), (.ifCond .lt 16, 3, 0, 32, [])]
def KX4_way_19 : List RI := [(.iload_n 2, 1, 0, 2, []), (.aload_n 0, 1, 0, 0, []), (.getfield 25, 3, 0, 154, []), (.arraylength, 1, 0, 0, []), (.if_icmp .ge 7, 3, 0, 32, [])]
def KX4_way_28 : List RI := [(.iload_n 2, 1, 0, 2, []), (.goto 4, 3, 0, 33, [])]
def KX4_way_32 : List RI := [(.iconst 0, 1, 0, 0, [])]
def KX4_way_33 : List RI := [(.ireturn, 1, 1, 0, [])]
def KX4_way : RB := [(0, KX4_way_0), (19, KX4_way_19), (28, KX4_way_28), (32, KX4_way_32), (33, KX4_way_33)]
def rX4_way : CmC := (yX4_way, cX4_way, 3, (some .int), 1, 5, false)
theorem hX4_way : mtC[106]? = some rX4_way := rfl
set_option maxRecDepth 100000 in
theorem okX4_way : cokMC rX4_way KX4_way = true := cokMC_of [] (fun _ h => absurd h List.not_mem_nil) (by decide +kernel) (by decide +kernel)
def KX4_choose_0 : List RI := [(.aload_n 0, 1, 0, 0, []), (.aload_n 1, 1, 0, 1, []), (.getfield 257, 3, 0, 290, []), (.putfield 118, 3, 0, 161, []), (.aload_n 1, 1, 0, 1, []), (.getfield 260, 3, 0, 276, []), (.astore 4, 2, 0, 0, [])]
def KX4_choose_14 : List RI := [(.aload 4, 2, 0, 0, []), (.ifnull 73, 3, 0, 89, [])]
def KX4_choose_19 : List RI := [(.aload 4, 2, 0, 0, []), (.getfield 239, 3, 0, 270, []), (.bipush 62, 2, 0, 0, []), (.if_icmp .ne 34, 3, 0, 60, [])]
def KX4_choose_29 : List RI := [(.aload 4, 2, 0, 0, []), (.getfield 244, 3, 0, 279, []), (.ifnull 26, 3, 0, 60, [])]
def KX4_choose_37 : List RI := [(.aload 4, 2, 0, 0, []), (.getfield 244, 3, 0, 279, []), (.getfield 157, 3, 0, 71, []), (.lload_n 2, 1, 0, 2, []), (.lcmp, 1, 0, 0, []), (.ifCond .ne 13, 3, 0, 60, [])]
def KX4_choose_50 : List RI := [(.aload_n 0, 1, 0, 0, []), (.aload 4, 2, 0, 0, []), (.getfield 231, 3, 0, 289, []), (.putfield 118, 3, 0, 161, []), (.return_, 1, 0, 0, [])]
def KX4_choose_60 : List RI := [(.aload 4, 2, 0, 0, []), (.getfield 239, 3, 0, 270, []), (.bipush 63, 2, 0, 0, []), (.if_icmp .ne 12, 3, 0, 79, [])]
def KX4_choose_70 : List RI := [(.aload_n 0, 1, 0, 0, []), (.aload 4, 2, 0, 0, []), (.getfield 231, 3, 0, 289, []), (.putfield 118, 3, 0, 161, [])]
def KX4_choose_79 : List RI := [(.aload 4, 2, 0, 0, []), (.getfield 261, 3, 0, 275, []), (.astore 4, 2, 0, 0, []), (.goto (-72), 3, 0, 14, [])]
def KX4_choose_89 : List RI := [(.return_, 1, 0, 0, [])]
def KX4_choose : RB := [(0, KX4_choose_0), (14, KX4_choose_14), (19, KX4_choose_19), (29, KX4_choose_29), (37, KX4_choose_37), (50, KX4_choose_50), (60, KX4_choose_60), (70, KX4_choose_70), (79, KX4_choose_79), (89, KX4_choose_89)]
def rX4_choose : CmC := (yX4_choose, cX4_choose, 5, none, 2, 5, false)
theorem hX4_choose : mtC[107]? = some rX4_choose := rfl
set_option maxRecDepth 100000 in
theorem okX4_choose : cokMC rX4_choose KX4_choose = true := cokMC_of [] (fun _ h => absurd h List.not_mem_nil) (by decide +kernel) (by decide +kernel)
def KX4_leave_0 : List RI := [(.aload 4, 2, 0, 0, []), (.astore 6, 2, 0, 0, []), (.iconst 0, 1, 0, 0, []), (.istore 7, 2, 0, 0, [])]
def KX4_leave_7 : List RI := [(.iload 7, 2, 0, 0, []), (.sipush 2520, 3, 0, 0, []), (.if_icmp .ge 171, 3, 0, 183, [])]
def KX4_leave_15 : List RI := [(.aload 6, 2, 0, 0, []), (.ifnull 166, 3, 0, 183, [])]
def KX4_leave_20 : List RI := [(.aload 6, 2, 0, 0, []), (.aload 5, 2, 0, 0, []), (.if_acmp .ne 27, 3, 0, 51, [])]
def KX4_leave_27 : List RI := [(.aload_n 0, 1, 0, 0, []), (.iload_n 1, 1, 0, 1, []), (.bipush 64, 2, 0, 0, []), (.if_icmp .ne 11, 3, 0, 42, [])]
def KX4_leave_34 : List RI := [(.aload 6, 2, 0, 0, []), (.getfield 257, 3, 0, 290, []), (.goto 8, 3, 0, 47, [])]
def KX4_leave_42 : List RI := [(.aload 6, 2, 0, 0, []), (.getfield 231, 3, 0, 289, [])]
def KX4_leave_47 : List RI := [(.putfield 118, 3, 0, 161, []), (.return_, 1, 0, 0, [])]
def KX4_leave_51 : List RI := [(.iload_n 1, 1, 0, 1, []), (.bipush 67, 2, 0, 0, []), (.if_icmp .ne 42, 3, 0, 96, [])]
def KX4_leave_57 : List RI := [(.aload 6, 2, 0, 0, []), (.invokevirtual 264, 3, 0, 182, [(0, 0), (0, 0), (0, 0), (0, 0), (0, 0), (0, 0), (0, 0), (0, 0), (0, 0)]), (.ifCond .eq 34, 3, 0, 96, [])]
def KX4_leave_65 : List RI := [(.aload_n 0, 1, 0, 0, []), (.aload 6, 2, 0, 0, []), (.getfield 267, 3, 0, 273, []), (.getfield 270, 3, 0, 277, []), (.invokevirtual 273, 3, 1, 109, [(0, 0), (0, 0), (0, 0), (0, 0), (0, 0)]), (.aload_n 0, 1, 0, 0, []), (.getfield 9, 3, 0, 150, []), (.aload_n 0, 1, 0, 0, []), (.aload 6, 2, 0, 0, []), (.getfield 267, 3, 0, 273, []), (.getfield 277, 3, 0, 280, []), (.invokevirtual 165, 3, 1, 93, [(0, 0), (0, 0), (0, 0), (0, 0), (0, 0)]), (.lload_n 2, 1, 0, 2, []), (.lastore, 1, 0, 0, []), (.return_, 1, 0, 0, [])]
def KX4_leave_96 : List RI := [(.aload 6, 2, 0, 0, []), (.invokevirtual 278, 3, 0, 181, [(0, 0), (0, 0), (0, 0), (0, 0), (0, 0), (0, 0), (0, 0), (0, 0), (0, 0)]), (.ifCond .eq 52, 3, 0, 153, [])]
def KX4_leave_104 : List RI := [(.aload_n 0, 1, 0, 0, []), (.aload 6, 2, 0, 0, []), (.getfield 267, 3, 0, 273, []), (.invokevirtual 247, 3, 1, 106, [(0, 0), (0, 0), (0, 0), (0, 0), (0, 0)]), (.istore 8, 2, 0, 0, []), (.aload_n 0, 1, 0, 0, []), (.getfield 25, 3, 0, 154, []), (.iload 8, 2, 0, 0, []), (.iload_n 1, 1, 0, 1, []), (.iastore, 1, 0, 0, []), (.aload_n 0, 1, 0, 0, []), (.getfield 28, 3, 0, 155, []), (.iload 8, 2, 0, 0, []), (.lload_n 2, 1, 0, 2, []), (.lastore, 1, 0, 0, []), (.aload_n 0, 1, 0, 0, []), (.getfield 33, 3, 0, 156, []), (.iload 8, 2, 0, 0, []), (.aload 5, 2, 0, 0, []), (.aastore, 1, 0, 0, []), (.aload_n 0, 1, 0, 0, []), (.aload 6, 2, 0, 0, []), (.getfield 267, 3, 0, 273, []), (.getfield 281, 3, 0, 278, []), (.invokevirtual 273, 3, 1, 109, [(0, 0), (0, 0), (0, 0), (0, 0), (0, 0)]), (.return_, 1, 0, 0, [])]
def KX4_leave_153 : List RI := [(.aload 6, 2, 0, 0, []), (.getfield 267, 3, 0, 273, []), (.ifnonnull 12, 3, 0, 170, [])]
def KX4_leave_161 : List RI := [(.aload_n 0, 1, 0, 0, []), (.iload_n 1, 1, 0, 1, []), (.lload_n 2, 1, 0, 2, []), (.invokevirtual 284, 3, 2, 110, [(0, 0), (0, 0), (0, 0), (0, 0), (0, 0)]), (.goto 8, 3, 0, 175, [])]
def KX4_leave_170 : List RI := [(.aload 6, 2, 0, 0, []), (.getfield 267, 3, 0, 273, [])]
def KX4_leave_175 : List RI := [(.astore 6, 2, 0, 0, []), (.iinc 7 1, 3, 0, 0, []), (.goto (-173), 3, 0, 7, [])]
def KX4_leave_183 : List RI := [(.return_, 1, 0, 0, [])]
def KX4_leave : RB := [(0, KX4_leave_0), (7, KX4_leave_7), (15, KX4_leave_15), (20, KX4_leave_20), (27, KX4_leave_27), (34, KX4_leave_34), (42, KX4_leave_42), (47, KX4_leave_47), (51, KX4_leave_51), (57, KX4_leave_57), (65, KX4_leave_65), (96, KX4_leave_96), (104, KX4_leave_104), (153, KX4_leave_153), (161, KX4_leave_161), (170, KX4_leave_170), (175, KX4_leave_175), (183, KX4_leave_183)]
def rX4_leave : CmC := (yX4_leave, cX4_leave, 9, none, 4, 5, false)
theorem hX4_leave : mtC[108]? = some rX4_leave := rfl
set_option maxRecDepth 100000 in
theorem okX4_leave : cokMC rX4_leave KX4_leave = true := cokMC_of [] (fun _ h => absurd h List.not_mem_nil) (by decide +kernel) (by decide +kernel)
def KX4_goInto_0 : List RI := [(.aload_n 0, 1, 0, 0, []), (.aload_n 0, 1, 0, 0, []), (.getfield 18, 3, 0, 152, []), (.aload_n 0, 1, 0, 0, []), (.getfield 60, 3, 0, 163, []), (.iaload, 1, 0, 0, []), (.putfield 57, 3, 0, 162, []), (.aload_n 0, 1, 0, 0, []), (.aload_n 1, 1, 0, 1, []), (.getfield 231, 3, 0, 289, []), (.putfield 118, 3, 0, 161, []), (.return_, 1, 0, 0, [])]
def KX4_goInto : RB := [(0, KX4_goInto_0)]
def rX4_goInto : CmC := (yX4_goInto, cX4_goInto, 2, none, 1, 5, false)
theorem hX4_goInto : mtC[109]? = some rX4_goInto := rfl
set_option maxRecDepth 100000 in
theorem okX4_goInto : cokMC rX4_goInto KX4_goInto = true := cokMC_of [] (fun _ h => absurd h List.not_mem_nil) (by decide +kernel) (by decide +kernel)
def KX4_behindMethod_0 : List RI := [(.iload_n 1, 1, 0, 1, []), (.bipush 67, 2, 0, 0, []), (.if_icmp .eq 10, 3, 0, 13, [])]
def KX4_behindMethod_6 : List RI := [(.aload_n 0, 1, 0, 0, []), (.lload_n 2, 1, 0, 2, []), (.invokevirtual 251, 3, 1, 103, [(0, 0), (0, 0), (0, 0), (0, 0), (0, 0)]), (.aconst_null, 1, 0, 0, []), (.areturn, 1, 0, 0, [])]
def KX4_behindMethod_13 : List RI := [(.aload_n 0, 1, 0, 0, []), (.lconst 0, 1, 0, 0, []), (.invokevirtual 251, 3, 1, 103, [(0, 0), (0, 0), (0, 0), (0, 0), (0, 0)]), (.aload_n 0, 1, 0, 0, []), (.getfield 60, 3, 0, 163, []), (.ifCond .ne 15, 3, 0, 37, [])]
def KX4_behindMethod_25 : List RI := [(.aload_n 0, 1, 0, 0, []), (.iconst 2, 1, 0, 0, []), (.putfield 79, 3, 0, 169, []), (.aload_n 0, 1, 0, 0, []), (.lload_n 2, 1, 0, 2, []), (.putfield 75, 3, 0, 170, []), (.aconst_null, 1, 0, 0, []), (.areturn, 1, 0, 0, [])]
def KX4_behindMethod_37 : List RI := [(.aload_n 0, 1, 0, 0, []), (.getfield 118, 3, 0, 161, []), (.ifCond .le 34, 3, 0, 75, [])]
def KX4_behindMethod_44 : List RI := [(.aload_n 0, 1, 0, 0, []), (.getfield 118, 3, 0, 161, []), (.aload_n 0, 1, 0, 0, []), (.getfield 43, 3, 0, 158, []), (.getfield 121, 3, 0, 34, []), (.if_icmp .gt 20, 3, 0, 75, [])]
def KX4_behindMethod_58 : List RI := [(.aload_n 0, 1, 0, 0, []), (.getfield 43, 3, 0, 158, []), (.getfield 139, 3, 0, 33, []), (.aload_n 0, 1, 0, 0, []), (.getfield 118, 3, 0, 161, []), (.iconst 1, 1, 0, 0, []), (.isub, 1, 0, 0, []), (.aaload, 1, 0, 0, []), (.goto 4, 3, 0, 76, [])]
def KX4_behindMethod_75 : List RI := [(.aconst_null, 1, 0, 0, [])]
def KX4_behindMethod_76 : List RI := [(.areturn, 1, 0, 0, [])]
def KX4_behindMethod : RB := [(0, KX4_behindMethod_0), (6, KX4_behindMethod_6), (13, KX4_behindMethod_13), (25, KX4_behindMethod_25), (37, KX4_behindMethod_37), (44, KX4_behindMethod_44), (58, KX4_behindMethod_58), (75, KX4_behindMethod_75), (76, KX4_behindMethod_76)]
def rX4_behindMethod : CmC := (yX4_behindMethod, cX4_behindMethod, 4, (some (.object "PlainJava$Statement")), 2, 5, false)
theorem hX4_behindMethod : mtC[110]? = some rX4_behindMethod := rfl
set_option maxRecDepth 100000 in
theorem okX4_behindMethod : cokMC rX4_behindMethod KX4_behindMethod = true := cokMC_of [] (fun _ h => absurd h List.not_mem_nil) (by decide +kernel) (by decide +kernel)
def KX5_init_0 : List RI := [(.aload_n 0, 1, 0, 0, []), (.invokespecial 3, 3, 0, 9999, []), (.aload_n 0, 1, 0, 0, []), (.bipush 6, 2, 0, 0, []), (.newarray .int, 2, 7, 100, []), (.putfield 9, 3, 0, 183, []), (.aload_n 0, 1, 0, 0, []), (.new 15, 3, 0, 9, []), (.dup, 1, 0, 0, []), (.bipush 92, 2, 0, 0, []), (.iconst 0, 1, 0, 0, []), (.iconst 0, 1, 0, 0, []), (.aconst_null, 1, 0, 0, []), (.lconst 0, 1, 0, 0, []), (.invokespecial 17, 3, 5, 178, []), (.putfield 20, 3, 0, 186, []), (.aload_n 0, 1, 0, 0, []), (.iload_n 1, 1, 0, 1, []), (.putfield 24, 3, 0, 180, []), (.aload_n 0, 1, 0, 0, []), (.lload_n 2, 1, 0, 2, []), (.putfield 28, 3, 0, 181, []), (.aload_n 0, 1, 0, 0, []), (.iload 4, 2, 0, 0, []), (.putfield 32, 3, 0, 182, []), (.aload_n 0, 1, 0, 0, []), (.iload 5, 2, 0, 0, []), (.putfield 35, 3, 0, 184, []), (.return_, 1, 0, 0, [])]
def KX5_init : RB := [(0, KX5_init_0)]
def rX5_init : CmC := (yX5_init, cX5_init, 6, none, 4, 6, false)
theorem hX5_init : mtC[111]? = some rX5_init := rfl
set_option maxRecDepth 100000 in
theorem swX5_init_7 : decode cX5_init 7 = .ok (.newarray .int, 2) := by decide +kernel
set_option maxRecDepth 100000 in
theorem okX5_init : cokMC rX5_init KX5_init = true := cokMC_of [(7, .newarray .int, 2)] (fun q hq => by
  obtain rfl := List.mem_singleton.mp hq
  exact swX5_init_7) (by decide +kernel) (by decide +kernel)
def KX5_addParam_0 : List RI := [(.aload_n 0, 1, 0, 0, []), (.getfield 38, 3, 0, 185, []), (.bipush 6, 2, 0, 0, []), (.if_icmp .ge 23, 3, 0, 29, [])]
def KX5_addParam_9 : List RI := [(.aload_n 0, 1, 0, 0, []), (.getfield 9, 3, 0, 183, []), (.aload_n 0, 1, 0, 0, []), (.getfield 38, 3, 0, 185, []), (.iload_n 1, 1, 0, 1, []), (.iastore, 1, 0, 0, []), (.aload_n 0, 1, 0, 0, []), (.dup, 1, 0, 0, []), (.getfield 38, 3, 0, 185, []), (.iconst 1, 1, 0, 0, []), (.iadd, 1, 0, 0, []), (.putfield 38, 3, 0, 185, [])]
def KX5_addParam_29 : List RI := [(.return_, 1, 0, 0, [])]
def KX5_addParam : RB := [(0, KX5_addParam_0), (9, KX5_addParam_9), (29, KX5_addParam_29)]
def rX5_addParam : CmC := (yX5_addParam, cX5_addParam, 2, none, 1, 6, false)
theorem hX5_addParam : mtC[112]? = some rX5_addParam := rfl
set_option maxRecDepth 100000 in
theorem okX5_addParam : cokMC rX5_addParam KX5_addParam = true := cokMC_of [] (fun _ h => absurd h List.not_mem_nil) (by decide +kernel) (by decide +kernel)
def KX5_hasSameParams_0 : List RI := [(.aload_n 0, 1, 0, 0, []), (.getfield 38, 3, 0, 185, []), (.aload_n 1, 1, 0, 1, []), (.getfield 38, 3, 0, 185, []), (.if_icmp .eq 5, 3, 0, 13, [])]
def KX5_hasSameParams_11 : List RI := [(.iconst 0, 1, 0, 0, []), (.ireturn, 1, 2, 0, [])]
def KX5_hasSameParams_13 : List RI := [(.iconst 0, 1, 0, 0, []), (.istore_n 2, 1, 0, 2, [])]
def KX5_hasSameParams_15 : List RI := [(.iload_n 2, 1, 0, 2, []), (.aload_n 0, 1, 0, 0, []), (.getfield 38, 3, 0, 185, []), (.if_icmp .ge 26, 3, 0, 46, [])]
def KX5_hasSameParams_23 : List RI := [(.aload_n 0, 1, 0, 0, []), (.getfield 9, 3, 0, 183, []), (.iload_n 2, 1, 0, 2, []), (.iaload, 1, 0, 0, []), (.aload_n 1, 1, 0, 1, []), (.getfield 9, 3, 0, 183, []), (.iload_n 2, 1, 0, 2, []), (.iaload, 1, 0, 0, []), (.if_icmp .eq 5, 3, 0, 40, [])]
def KX5_hasSameParams_38 : List RI := [(.iconst 0, 1, 0, 0, []), (.ireturn, 1, 2, 0, [])]
def KX5_hasSameParams_40 : List RI := [(.iinc 2 1, 3, 0, 0, []), (.goto (-28), 3, 0, 15, [])]
def KX5_hasSameParams_46 : List RI := [(.iconst 1, 1, 0, 0, []), (.ireturn, 1, 2, 0, [])]
def KX5_hasSameParams : RB := [(0, KX5_hasSameParams_0), (11, KX5_hasSameParams_11), (13, KX5_hasSameParams_13), (15, KX5_hasSameParams_15), (23, KX5_hasSameParams_23), (38, KX5_hasSameParams_38), (40, KX5_hasSameParams_40), (46, KX5_hasSameParams_46)]
def rX5_hasSameParams : CmC := (yX5_hasSameParams, cX5_hasSameParams, 3, (some .boolean), 1, 6, false)
theorem hX5_hasSameParams : mtC[113]? = some rX5_hasSameParams := rfl
set_option maxRecDepth 100000 in
theorem okX5_hasSameParams : cokMC rX5_hasSameParams KX5_hasSameParams = true := cokMC_of [] (fun _ h => absurd h List.not_mem_nil) (by decide +kernel) (by decide +kernel)
def KX5_isAsNarrowAs_0 : List RI := [(.iconst 0, 1, 0, 0, []), (.istore_n 2, 1, 0, 2, [])]
def KX5_isAsNarrowAs_2 : List RI := [(.iload_n 2, 1, 0, 2, []), (.aload_n 0, 1, 0, 0, []), (.getfield 38, 3, 0, 185, []), (.if_icmp .ge 29, 3, 0, 36, [])]
def KX5_isAsNarrowAs_10 : List RI := [(.aload_n 0, 1, 0, 0, []), (.getfield 9, 3, 0, 183, []), (.iload_n 2, 1, 0, 2, []), (.iaload, 1, 0, 0, []), (.aload_n 1, 1, 0, 1, []), (.getfield 9, 3, 0, 183, []), (.iload_n 2, 1, 0, 2, []), (.iaload, 1, 0, 0, []), (.invokestatic 41, 3, 2, 224, []), (.ifCond .ne 5, 3, 0, 30, [])]
def KX5_isAsNarrowAs_28 : List RI := [(.iconst 0, 1, 0, 0, []), (.ireturn, 1, 2, 0, [])]
def KX5_isAsNarrowAs_30 : List RI := [(.iinc 2 1, 3, 0, 0, []), (.goto (-31), 3, 0, 2, [])]
def KX5_isAsNarrowAs_36 : List RI := [(.iconst 1, 1, 0, 0, []), (.ireturn, 1, 2, 0, [])]
def KX5_isAsNarrowAs : RB := [(0, KX5_isAsNarrowAs_0), (2, KX5_isAsNarrowAs_2), (10, KX5_isAsNarrowAs_10), (28, KX5_isAsNarrowAs_28), (30, KX5_isAsNarrowAs_30), (36, KX5_isAsNarrowAs_36)]
def rX5_isAsNarrowAs : CmC := (yX5_isAsNarrowAs, cX5_isAsNarrowAs, 3, (some .boolean), 1, 6, false)
theorem hX5_isAsNarrowAs : mtC[114]? = some rX5_isAsNarrowAs := rfl
set_option maxRecDepth 100000 in
theorem okX5_isAsNarrowAs : cokMC rX5_isAsNarrowAs KX5_isAsNarrowAs = true := cokMC_of [] (fun _ h => absurd h List.not_mem_nil) (by decide +kernel) (by decide +kernel)
def KX5_takes_0 : List RI := [(.aload_n 0, 1, 0, 0, []), (.getfield 28, 3, 0, 181, []), (.lload_n 1, 1, 0, 1, []), (.lcmp, 1, 0, 0, []), (.ifCond .ne 11, 3, 0, 17, [])]
def KX5_takes_9 : List RI := [(.aload_n 0, 1, 0, 0, []), (.getfield 38, 3, 0, 185, []), (.iload_n 3, 1, 0, 3, []), (.if_icmp .eq 5, 3, 0, 19, [])]
def KX5_takes_17 : List RI := [(.iconst 0, 1, 0, 0, []), (.ireturn, 1, 2, 0, [])]
def KX5_takes_19 : List RI := [(.aload 4, 2, 0, 0, []), (.astore 5, 2, 0, 0, []), (.iconst 0, 1, 0, 0, []), (.istore 6, 2, 0, 0, [])]
def KX5_takes_26 : List RI := [(.iload 6, 2, 0, 0, []), (.aload_n 0, 1, 0, 0, []), (.getfield 38, 3, 0, 185, []), (.if_icmp .ge 41, 3, 0, 73, [])]
def KX5_takes_35 : List RI := [(.aload 5, 2, 0, 0, []), (.ifnull 36, 3, 0, 73, [])]
def KX5_takes_40 : List RI := [(.aload 5, 2, 0, 0, []), (.getfield 45, 3, 0, 68, []), (.aload_n 0, 1, 0, 0, []), (.getfield 9, 3, 0, 183, []), (.iload 6, 2, 0, 0, []), (.iaload, 1, 0, 0, []), (.invokestatic 41, 3, 2, 224, []), (.ifCond .ne 5, 3, 0, 60, [])]
def KX5_takes_58 : List RI := [(.iconst 0, 1, 0, 0, []), (.ireturn, 1, 2, 0, [])]
def KX5_takes_60 : List RI := [(.aload 5, 2, 0, 0, []), (.getfield 48, 3, 0, 75, []), (.astore 5, 2, 0, 0, []), (.iinc 6 1, 3, 0, 0, []), (.goto (-44), 3, 0, 26, [])]
def KX5_takes_73 : List RI := [(.iconst 1, 1, 0, 0, []), (.ireturn, 1, 2, 0, [])]
def KX5_takes : RB := [(0, KX5_takes_0), (9, KX5_takes_9), (17, KX5_takes_17), (19, KX5_takes_19), (26, KX5_takes_26), (35, KX5_takes_35), (40, KX5_takes_40), (58, KX5_takes_58), (60, KX5_takes_60), (73, KX5_takes_73)]
def rX5_takes : CmC := (yX5_takes, cX5_takes, 7, (some .boolean), 3, 6, false)
theorem hX5_takes : mtC[115]? = some rX5_takes := rfl
set_option maxRecDepth 100000 in
theorem okX5_takes : cokMC rX5_takes KX5_takes = true := cokMC_of [] (fun _ h => absurd h List.not_mem_nil) (by decide +kernel) (by decide +kernel)
def KX6_init_0 : List RI := [(.aload_n 0, 1, 0, 0, []), (.invokespecial 3, 3, 0, 9999, []), (.aload_n 0, 1, 0, 0, []), (.new 9, 3, 0, 10, []), (.dup, 1, 0, 0, []), (.invokespecial 11, 3, 0, 184, []), (.putfield 12, 3, 0, 210, []), (.aload_n 0, 1, 0, 0, []), (.new 18, 3, 6, 0, []), (.dup, 1, 0, 0, []), (.invokespecial 20, 3, 0, 233, []), (.putfield 21, 3, 0, 211, []), (.aload_n 0, 1, 0, 0, []), (.new 18, 3, 11, 0, []), (.dup, 1, 0, 0, []), (.invokespecial 20, 3, 0, 233, []), (.putfield 25, 3, 0, 212, []), (.aload_n 0, 1, 0, 0, []), (.new 18, 3, 2, 0, []), (.dup, 1, 0, 0, []), (.invokespecial 20, 3, 0, 233, []), (.putfield 28, 3, 0, 213, []), (.aload_n 0, 1, 0, 0, []), (.new 18, 3, 9, 0, []), (.dup, 1, 0, 0, []), (.invokespecial 20, 3, 0, 233, []), (.putfield 31, 3, 0, 214, []), (.aload_n 0, 1, 0, 0, []), (.new 34, 3, 0, 6, []), (.dup, 1, 0, 0, []), (.iconst (-1), 1, 0, 0, []), (.ldc 36, 2, 0, 1000004, []), (.invokestatic 38, 3, 1, 186, []), (.iconst 5, 1, 0, 0, []), (.iconst 0, 1, 0, 0, []), (.invokespecial 42, 3, 4, 111, []), (.putfield 45, 3, 0, 215, []), (.aload_n 0, 1, 0, 0, []), (.new 34, 3, 0, 6, []), (.dup, 1, 0, 0, []), (.iconst (-1), 1, 0, 0, []), (.ldc 48, 2, 0, 1000005, []), (.invokestatic 38, 3, 1, 186, []), (.iconst 3, 1, 0, 0, []), (.iconst 0, 1, 0, 0, []), (.invokespecial 42, 3, 4, 111, []), (.putfield 50, 3, 0, 216, []), (.aload_n 0, 1, 0, 0, []), (.getfield 45, 3, 0, 215, []), (.iconst 4, 1, 0, 0, []), (.invokevirtual 52, 3, 1, 112, [(0, 0), (0, 0), (0, 0), (0, 0), (0, 0), (0, 0)]), (.return_, 1, 0, 0, [])]
def KX6_init : RB := [(0, KX6_init_0)]
def rX6_init : CmC := (yX6_init, cX6_init, 1, none, 0, 7, false)
theorem hX6_init : mtC[116]? = some rX6_init := rfl
set_option maxRecDepth 100000 in
theorem okX6_init : cokMC rX6_init KX6_init = true := cokMC_of [] (fun _ h => absurd h List.not_mem_nil) (by decide +kernel) (by decide +kernel)
def KX6_clear_0 : List RI := [(.aload_n 0, 1, 0, 0, []), (.getfield 21, 3, 0, 211, []), (.invokevirtual 56, 3, 0, 237, []), (.aload_n 0, 1, 0, 0, []), (.getfield 25, 3, 0, 212, []), (.invokevirtual 56, 3, 0, 237, []), (.aload_n 0, 1, 0, 0, []), (.getfield 28, 3, 0, 213, []), (.invokevirtual 56, 3, 0, 237, []), (.aload_n 0, 1, 0, 0, []), (.getfield 31, 3, 0, 214, []), (.invokevirtual 56, 3, 0, 237, []), (.aload_n 0, 1, 0, 0, []), (.iconst 0, 1, 0, 0, []), (.putfield 59, 3, 0, 217, []), (.aload_n 0, 1, 0, 0, []), (.iconst 0, 1, 0, 0, []), (.putfield 63, 3, 0, 218, []), (.return_, 1, 0, 0, [])]
def KX6_clear : RB := [(0, KX6_clear_0)]
def rX6_clear : CmC := (yX6_clear, cX6_clear, 1, none, 0, 7, false)
theorem hX6_clear : mtC[117]? = some rX6_clear := rfl
set_option maxRecDepth 100000 in
theorem okX6_clear : cokMC rX6_clear KX6_clear = true := cokMC_of [] (fun _ h => absurd h List.not_mem_nil) (by decide +kernel) (by decide +kernel)
def KX6_tell_0 : List RI := [(.aload_n 0, 1, 0, 0, []), (.getfield 12, 3, 0, 210, []), (.getfield 66, 3, 0, 300, []), (.iload_n 2, 1, 0, 2, []), (.iaload, 1, 0, 0, []), (.istore_n 3, 1, 0, 3, []), (.aload_n 0, 1, 0, 0, []), (.getfield 59, 3, 0, 217, []), (.ifCond .eq 27, 3, 0, 41, [])]
def KX6_tell_17 : List RI := [(.iload_n 3, 1, 0, 3, []), (.aload_n 0, 1, 0, 0, []), (.getfield 63, 3, 0, 218, []), (.if_icmp .lt 19, 3, 0, 41, [])]
def KX6_tell_25 : List RI := [(.iload_n 3, 1, 0, 3, []), (.aload_n 0, 1, 0, 0, []), (.getfield 63, 3, 0, 218, []), (.if_icmp .ne 21, 3, 0, 51, [])]
def KX6_tell_33 : List RI := [(.iload_n 1, 1, 0, 1, []), (.aload_n 0, 1, 0, 0, []), (.getfield 59, 3, 0, 217, []), (.if_icmp .ge 13, 3, 0, 51, [])]
def KX6_tell_41 : List RI := [(.aload_n 0, 1, 0, 0, []), (.iload_n 1, 1, 0, 1, []), (.putfield 59, 3, 0, 217, []), (.aload_n 0, 1, 0, 0, []), (.iload_n 3, 1, 0, 3, []), (.putfield 63, 3, 0, 218, [])]
def KX6_tell_51 : List RI := [(.return_, 1, 0, 0, [])]
def KX6_tell : RB := [(0, KX6_tell_0), (17, KX6_tell_17), (25, KX6_tell_25), (33, KX6_tell_33), (41, KX6_tell_41), (51, KX6_tell_51)]
def rX6_tell : CmC := (yX6_tell, cX6_tell, 4, none, 2, 7, false)
theorem hX6_tell : mtC[118]? = some rX6_tell := rfl
set_option maxRecDepth 100000 in
theorem okX6_tell : cokMC rX6_tell KX6_tell = true := cokMC_of [] (fun _ h => absurd h List.not_mem_nil) (by decide +kernel) (by decide +kernel)
def KX6_methodOf_0 : List RI := [(.iload_n 1, 1, 0, 1, []), (.bipush 10, 2, 0, 0, []), (.if_icmp .ne 8, 3, 0, 11, [])]
def KX6_methodOf_6 : List RI := [(.aload_n 0, 1, 0, 0, []), (.getfield 45, 3, 0, 215, []), (.areturn, 1, 0, 0, [])]
def KX6_methodOf_11 : List RI := [(.iload_n 1, 1, 0, 1, []), (.bipush 11, 2, 0, 0, []), (.if_icmp .ne 8, 3, 0, 22, [])]
def KX6_methodOf_17 : List RI := [(.aload_n 0, 1, 0, 0, []), (.getfield 50, 3, 0, 216, []), (.areturn, 1, 0, 0, [])]
def KX6_methodOf_22 : List RI := [(.iload_n 1, 1, 0, 1, []), (.ifCond .lt 28, 3, 0, 51, [])]
def KX6_methodOf_26 : List RI := [(.iload_n 1, 1, 0, 1, []), (.aload_n 0, 1, 0, 0, []), (.getfield 21, 3, 0, 211, []), (.invokevirtual 70, 3, 0, 234, []), (.if_icmp .ge 17, 3, 0, 51, [])]
def KX6_methodOf_37 : List RI := [(.aload_n 0, 1, 0, 0, []), (.getfield 21, 3, 0, 211, []), (.iload_n 1, 1, 0, 1, []), (.invokevirtual 74, 3, 1, 235, []), (.checkcast 34, 3, 0, 6, []), (.goto 4, 3, 0, 52, [])]
def KX6_methodOf_51 : List RI := [(.aconst_null, 1, 0, 0, [])]
def KX6_methodOf_52 : List RI := [(.areturn, 1, 0, 0, [])]
def KX6_methodOf : RB := [(0, KX6_methodOf_0), (6, KX6_methodOf_6), (11, KX6_methodOf_11), (17, KX6_methodOf_17), (22, KX6_methodOf_22), (26, KX6_methodOf_26), (37, KX6_methodOf_37), (51, KX6_methodOf_51), (52, KX6_methodOf_52)]
def rX6_methodOf : CmC := (yX6_methodOf, cX6_methodOf, 2, (some (.object "PlainJava$Method")), 1, 7, false)
theorem hX6_methodOf : mtC[119]? = some rX6_methodOf := rfl
set_option maxRecDepth 100000 in
theorem okX6_methodOf : cokMC rX6_methodOf KX6_methodOf = true := cokMC_of [] (fun _ h => absurd h List.not_mem_nil) (by decide +kernel) (by decide +kernel)

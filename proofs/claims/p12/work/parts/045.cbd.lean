def KX6_expAt_0 : List RI := [(.iconst 0, 1, 0, 0, []), (.istore_n 3, 1, 0, 3, [])]
def KX6_expAt_2 : List RI := [(.iload_n 3, 1, 0, 3, []), (.aload_n 0, 1, 0, 0, []), (.getfield 28, 3, 0, 213, []), (.invokevirtual 70, 3, 0, 234, []), (.if_icmp .ge 53, 3, 0, 63, [])]
def KX6_expAt_13 : List RI := [(.aload_n 0, 1, 0, 0, []), (.getfield 28, 3, 0, 213, []), (.iload_n 3, 1, 0, 3, []), (.invokevirtual 74, 3, 1, 235, []), (.checkcast 78, 3, 0, 2, []), (.astore 4, 2, 0, 0, []), (.aload 4, 2, 0, 0, []), (.getfield 80, 3, 0, 60, []), (.bipush 10, 2, 0, 0, []), (.if_icmp .gt 24, 3, 0, 57, [])]
def KX6_expAt_36 : List RI := [(.aload 4, 2, 0, 0, []), (.getfield 83, 3, 0, 62, []), (.iload_n 1, 1, 0, 1, []), (.if_icmp .ne 15, 3, 0, 57, [])]
def KX6_expAt_45 : List RI := [(.aload 4, 2, 0, 0, []), (.getfield 86, 3, 0, 64, []), (.iload_n 2, 1, 0, 2, []), (.if_icmp .ne 6, 3, 0, 57, [])]
def KX6_expAt_54 : List RI := [(.aload 4, 2, 0, 0, []), (.areturn, 1, 0, 0, [])]
def KX6_expAt_57 : List RI := [(.iinc 3 1, 3, 0, 0, []), (.goto (-58), 3, 0, 2, [])]
def KX6_expAt_63 : List RI := [(.aconst_null, 1, 0, 0, []), (.areturn, 1, 0, 0, [])]
def KX6_expAt : RB := [(0, KX6_expAt_0), (2, KX6_expAt_2), (13, KX6_expAt_13), (36, KX6_expAt_36), (45, KX6_expAt_45), (54, KX6_expAt_54), (57, KX6_expAt_57), (63, KX6_expAt_63)]
def rX6_expAt : CmC := (yX6_expAt, cX6_expAt, 5, (some (.object "PlainJava$Exp")), 2, 7, false)
theorem hX6_expAt : mtC[120]? = some rX6_expAt := rfl
set_option maxRecDepth 100000 in
theorem okX6_expAt : cokMC rX6_expAt KX6_expAt = true := cokMC_of [] (fun _ h => absurd h List.not_mem_nil) (by decide +kernel) (by decide +kernel)
def KX6_statementAt_0 : List RI := [(.iconst 0, 1, 0, 0, []), (.istore_n 2, 1, 0, 2, [])]
def KX6_statementAt_2 : List RI := [(.iload_n 2, 1, 0, 2, []), (.aload_n 0, 1, 0, 0, []), (.getfield 31, 3, 0, 214, []), (.invokevirtual 70, 3, 0, 234, []), (.if_icmp .ge 38, 3, 0, 48, [])]
def KX6_statementAt_13 : List RI := [(.aload_n 0, 1, 0, 0, []), (.getfield 31, 3, 0, 214, []), (.iload_n 2, 1, 0, 2, []), (.invokevirtual 74, 3, 1, 235, []), (.checkcast 89, 3, 0, 9, []), (.astore_n 3, 1, 0, 3, []), (.aload_n 3, 1, 0, 3, []), (.getfield 91, 3, 0, 271, []), (.iload_n 1, 1, 0, 1, []), (.if_icmp .ne 12, 3, 0, 42, [])]
def KX6_statementAt_33 : List RI := [(.aload_n 3, 1, 0, 3, []), (.invokevirtual 92, 3, 0, 180, [(0, 0), (0, 0), (0, 0), (0, 0), (0, 0), (0, 0), (0, 0), (0, 0), (0, 0)]), (.ifCond .ne 5, 3, 0, 42, [])]
def KX6_statementAt_40 : List RI := [(.aload_n 3, 1, 0, 3, []), (.areturn, 1, 0, 0, [])]
def KX6_statementAt_42 : List RI := [(.iinc 2 1, 3, 0, 0, []), (.goto (-43), 3, 0, 2, [])]
def KX6_statementAt_48 : List RI := [(.aconst_null, 1, 0, 0, []), (.areturn, 1, 0, 0, [])]
def KX6_statementAt : RB := [(0, KX6_statementAt_0), (2, KX6_statementAt_2), (13, KX6_statementAt_13), (33, KX6_statementAt_33), (40, KX6_statementAt_40), (42, KX6_statementAt_42), (48, KX6_statementAt_48)]
def rX6_statementAt : CmC := (yX6_statementAt, cX6_statementAt, 4, (some (.object "PlainJava$Statement")), 1, 7, false)
theorem hX6_statementAt : mtC[121]? = some rX6_statementAt := rfl
set_option maxRecDepth 100000 in
theorem okX6_statementAt : cokMC rX6_statementAt KX6_statementAt = true := cokMC_of [] (fun _ h => absurd h List.not_mem_nil) (by decide +kernel) (by decide +kernel)
def KX7_init_0 : List RI := [(.aload_n 0, 1, 0, 0, []), (.invokespecial 3, 3, 0, 9999, []), (.aload_n 0, 1, 0, 0, []), (.aload_n 1, 1, 0, 1, []), (.putfield 9, 3, 0, 240, []), (.aload_n 0, 1, 0, 0, []), (.aload_n 1, 1, 0, 1, []), (.getfield 15, 3, 0, 210, []), (.putfield 21, 3, 0, 241, []), (.return_, 1, 0, 0, [])]
def KX7_init : RB := [(0, KX7_init_0)]
def rX7_init : CmC := (yX7_init, cX7_init, 2, none, 1, 8, false)
theorem hX7_init : mtC[122]? = some rX7_init := rfl
set_option maxRecDepth 100000 in
theorem okX7_init : cokMC rX7_init KX7_init = true := cokMC_of [] (fun _ h => absurd h List.not_mem_nil) (by decide +kernel) (by decide +kernel)
def KX7_readProgram_0 : List RI := [(.aload_n 0, 1, 0, 0, []), (.aload_n 1, 1, 0, 1, []), (.putfield 9, 3, 0, 240, []), (.aload_n 0, 1, 0, 0, []), (.aload_n 1, 1, 0, 1, []), (.getfield 15, 3, 0, 210, []), (.putfield 21, 3, 0, 241, []), (.aload_n 0, 1, 0, 0, []), (.getfield 9, 3, 0, 240, []), (.invokevirtual 22, 3, 0, 117, [(0, 0), (0, 0), (0, 0), (0, 0), (0, 0), (0, 0), (0, 0)]), (.aload_n 0, 1, 0, 0, []), (.getfield 21, 3, 0, 241, []), (.aload_n 2, 1, 0, 2, []), (.iload_n 3, 1, 0, 3, []), (.invokevirtual 25, 3, 2, 188, [(0, 0), (0, 0), (0, 0), (0, 0), (0, 0), (0, 0), (0, 0), (0, 0), (0, 0), (0, 0)]), (.aload_n 0, 1, 0, 0, []), (.iconst 0, 1, 0, 0, []), (.putfield 31, 3, 0, 242, []), (.aload_n 0, 1, 0, 0, []), (.iconst 0, 1, 0, 0, []), (.putfield 35, 3, 0, 243, []), (.iconst 0, 1, 0, 0, []), (.istore 4, 2, 0, 0, [])]
def KX7_readProgram_42 : List RI := [(.iload 4, 2, 0, 0, []), (.bipush 10, 2, 0, 0, []), (.if_icmp .gt 29, 3, 0, 75, [])]
def KX7_readProgram_49 : List RI := [(.aload_n 0, 1, 0, 0, []), (.getfield 35, 3, 0, 243, []), (.ifCond .ne 22, 3, 0, 75, [])]
def KX7_readProgram_56 : List RI := [(.aload_n 0, 1, 0, 0, []), (.invokevirtual 38, 3, 0, 125, [(0, 0), (0, 0), (0, 0), (0, 0), (0, 0), (0, 0), (0, 0), (0, 0)]), (.bipush 84, 2, 0, 0, []), (.if_icmp .eq 13, 3, 0, 75, [])]
def KX7_readProgram_65 : List RI := [(.aload_n 0, 1, 0, 0, []), (.invokevirtual 42, 3, 0, 134, [(0, 0), (0, 0), (0, 0), (0, 0), (0, 0), (0, 0), (0, 0), (0, 0)]), (.iinc 4 1, 3, 0, 0, []), (.goto (-30), 3, 0, 42, [])]
def KX7_readProgram_75 : List RI := [(.aload_n 0, 1, 0, 0, []), (.getfield 35, 3, 0, 243, []), (.ireturn, 1, 1, 0, [])]
def KX7_readProgram : RB := [(0, KX7_readProgram_0), (42, KX7_readProgram_42), (49, KX7_readProgram_49), (56, KX7_readProgram_56), (65, KX7_readProgram_65), (75, KX7_readProgram_75)]
def rX7_readProgram : CmC := (yX7_readProgram, cX7_readProgram, 5, (some .int), 3, 8, false)
theorem hX7_readProgram : mtC[123]? = some rX7_readProgram := rfl
set_option maxRecDepth 100000 in
theorem okX7_readProgram : cokMC rX7_readProgram KX7_readProgram = true := cokMC_of [] (fun _ h => absurd h List.not_mem_nil) (by decide +kernel) (by decide +kernel)
def KX7_faultPlace_0 : List RI := [(.aload_n 0, 1, 0, 0, []), (.getfield 45, 3, 0, 244, []), (.ireturn, 1, 1, 0, [])]
def KX7_faultPlace : RB := [(0, KX7_faultPlace_0)]
def rX7_faultPlace : CmC := (yX7_faultPlace, cX7_faultPlace, 1, (some .int), 0, 8, false)
theorem hX7_faultPlace : mtC[124]? = some rX7_faultPlace := rfl
set_option maxRecDepth 100000 in
theorem okX7_faultPlace : cokMC rX7_faultPlace KX7_faultPlace = true := cokMC_of [] (fun _ h => absurd h List.not_mem_nil) (by decide +kernel) (by decide +kernel)
def KX7_code_0 : List RI := [(.aload_n 0, 1, 0, 0, []), (.getfield 35, 3, 0, 243, []), (.ifCond .ne 18, 3, 0, 22, [])]
def KX7_code_7 : List RI := [(.aload_n 0, 1, 0, 0, []), (.getfield 21, 3, 0, 241, []), (.getfield 48, 3, 0, 302, []), (.aload_n 0, 1, 0, 0, []), (.getfield 31, 3, 0, 242, []), (.iaload, 1, 0, 0, []), (.goto 4, 3, 0, 23, [])]
def KX7_code_22 : List RI := [(.iconst (-1), 1, 0, 0, [])]
def KX7_code_23 : List RI := [(.ireturn, 1, 1, 0, [])]
def KX7_code : RB := [(0, KX7_code_0), (7, KX7_code_7), (22, KX7_code_22), (23, KX7_code_23)]
def rX7_code : CmC := (yX7_code, cX7_code, 1, (some .int), 0, 8, false)
theorem hX7_code : mtC[125]? = some rX7_code := rfl
set_option maxRecDepth 100000 in
theorem okX7_code : cokMC rX7_code KX7_code = true := cokMC_of [] (fun _ h => absurd h List.not_mem_nil) (by decide +kernel) (by decide +kernel)
def KX7_codeBehind_0 : List RI := [(.aload_n 0, 1, 0, 0, []), (.getfield 35, 3, 0, 243, []), (.ifCond .ne 30, 3, 0, 34, [])]
def KX7_codeBehind_7 : List RI := [(.aload_n 0, 1, 0, 0, []), (.getfield 31, 3, 0, 242, []), (.sipush 500, 3, 0, 0, []), (.if_icmp .ge 20, 3, 0, 34, [])]
def KX7_codeBehind_17 : List RI := [(.aload_n 0, 1, 0, 0, []), (.getfield 21, 3, 0, 241, []), (.getfield 48, 3, 0, 302, []), (.aload_n 0, 1, 0, 0, []), (.getfield 31, 3, 0, 242, []), (.iconst 1, 1, 0, 0, []), (.iadd, 1, 0, 0, []), (.iaload, 1, 0, 0, []), (.goto 4, 3, 0, 35, [])]
def KX7_codeBehind_34 : List RI := [(.iconst (-1), 1, 0, 0, [])]
def KX7_codeBehind_35 : List RI := [(.ireturn, 1, 1, 0, [])]
def KX7_codeBehind : RB := [(0, KX7_codeBehind_0), (7, KX7_codeBehind_7), (17, KX7_codeBehind_17), (34, KX7_codeBehind_34), (35, KX7_codeBehind_35)]
def rX7_codeBehind : CmC := (yX7_codeBehind, cX7_codeBehind, 1, (some .int), 0, 8, false)
theorem hX7_codeBehind : mtC[126]? = some rX7_codeBehind := rfl
set_option maxRecDepth 100000 in
theorem okX7_codeBehind : cokMC rX7_codeBehind KX7_codeBehind = true := cokMC_of [] (fun _ h => absurd h List.not_mem_nil) (by decide +kernel) (by decide +kernel)
def KX7_raise_0 : List RI := [(.aload_n 0, 1, 0, 0, []), (.getfield 35, 3, 0, 243, []), (.ifCond .ne 45, 3, 0, 49, [])]
def KX7_raise_7 : List RI := [(.aload_n 0, 1, 0, 0, []), (.aload_n 0, 1, 0, 0, []), (.getfield 21, 3, 0, 241, []), (.getfield 48, 3, 0, 302, []), (.aload_n 0, 1, 0, 0, []), (.getfield 31, 3, 0, 242, []), (.iaload, 1, 0, 0, []), (.bipush 85, 2, 0, 0, []), (.if_icmp .ne 7, 3, 0, 29, [])]
def KX7_raise_25 : List RI := [(.iconst 1, 1, 0, 0, []), (.goto 4, 3, 0, 30, [])]
def KX7_raise_29 : List RI := [(.iload_n 1, 1, 0, 1, [])]
def KX7_raise_30 : List RI := [(.putfield 35, 3, 0, 243, []), (.aload_n 0, 1, 0, 0, []), (.aload_n 0, 1, 0, 0, []), (.getfield 21, 3, 0, 241, []), (.getfield 51, 3, 0, 300, []), (.aload_n 0, 1, 0, 0, []), (.getfield 31, 3, 0, 242, []), (.iaload, 1, 0, 0, []), (.putfield 45, 3, 0, 244, [])]
def KX7_raise_49 : List RI := [(.return_, 1, 0, 0, [])]
def KX7_raise : RB := [(0, KX7_raise_0), (7, KX7_raise_7), (25, KX7_raise_25), (29, KX7_raise_29), (30, KX7_raise_30), (49, KX7_raise_49)]
def rX7_raise : CmC := (yX7_raise, cX7_raise, 2, none, 1, 8, false)
theorem hX7_raise : mtC[127]? = some rX7_raise := rfl
set_option maxRecDepth 100000 in
theorem okX7_raise : cokMC rX7_raise KX7_raise = true := cokMC_of [] (fun _ h => absurd h List.not_mem_nil) (by decide +kernel) (by decide +kernel)
def KX7_accept_0 : List RI := [(.aload_n 0, 1, 0, 0, []), (.getfield 31, 3, 0, 242, []), (.sipush 500, 3, 0, 0, []), (.if_icmp .lt 11, 3, 0, 18, [])]
def KX7_accept_10 : List RI := [(.aload_n 0, 1, 0, 0, []), (.iconst 3, 1, 0, 0, []), (.invokevirtual 53, 3, 1, 127, [(0, 0), (0, 0), (0, 0), (0, 0), (0, 0), (0, 0), (0, 0), (0, 0)]), (.goto 20, 3, 0, 35, [])]
def KX7_accept_18 : List RI := [(.aload_n 0, 1, 0, 0, []), (.getfield 35, 3, 0, 243, []), (.ifCond .ne 13, 3, 0, 35, [])]
def KX7_accept_25 : List RI := [(.aload_n 0, 1, 0, 0, []), (.dup, 1, 0, 0, []), (.getfield 31, 3, 0, 242, []), (.iconst 1, 1, 0, 0, []), (.iadd, 1, 0, 0, []), (.putfield 31, 3, 0, 242, [])]
def KX7_accept_35 : List RI := [(.return_, 1, 0, 0, [])]
def KX7_accept : RB := [(0, KX7_accept_0), (10, KX7_accept_10), (18, KX7_accept_18), (25, KX7_accept_25), (35, KX7_accept_35)]
def rX7_accept : CmC := (yX7_accept, cX7_accept, 1, none, 0, 8, false)
theorem hX7_accept : mtC[128]? = some rX7_accept := rfl
set_option maxRecDepth 100000 in
theorem okX7_accept : cokMC rX7_accept KX7_accept = true := cokMC_of [] (fun _ h => absurd h List.not_mem_nil) (by decide +kernel) (by decide +kernel)
def KX7_expect_0 : List RI := [(.aload_n 0, 1, 0, 0, []), (.invokevirtual 38, 3, 0, 125, [(0, 0), (0, 0), (0, 0), (0, 0), (0, 0), (0, 0), (0, 0), (0, 0)]), (.iload_n 1, 1, 0, 1, []), (.if_icmp .ne 10, 3, 0, 15, [])]
def KX7_expect_8 : List RI := [(.aload_n 0, 1, 0, 0, []), (.invokevirtual 57, 3, 0, 128, [(0, 0), (0, 0), (0, 0), (0, 0), (0, 0), (0, 0), (0, 0), (0, 0)]), (.goto 8, 3, 0, 20, [])]
def KX7_expect_15 : List RI := [(.aload_n 0, 1, 0, 0, []), (.iconst 2, 1, 0, 0, []), (.invokevirtual 53, 3, 1, 127, [(0, 0), (0, 0), (0, 0), (0, 0), (0, 0), (0, 0), (0, 0), (0, 0)])]
def KX7_expect_20 : List RI := [(.return_, 1, 0, 0, [])]
def KX7_expect : RB := [(0, KX7_expect_0), (8, KX7_expect_8), (15, KX7_expect_15), (20, KX7_expect_20)]
def rX7_expect : CmC := (yX7_expect, cX7_expect, 2, none, 1, 8, false)
theorem hX7_expect : mtC[129]? = some rX7_expect := rfl
set_option maxRecDepth 100000 in
theorem okX7_expect : cokMC rX7_expect KX7_expect = true := cokMC_of [] (fun _ h => absurd h List.not_mem_nil) (by decide +kernel) (by decide +kernel)
def KX7_takes_0 : List RI := [(.aload_n 0, 1, 0, 0, []), (.invokevirtual 38, 3, 0, 125, [(0, 0), (0, 0), (0, 0), (0, 0), (0, 0), (0, 0), (0, 0), (0, 0)]), (.iload_n 1, 1, 0, 1, []), (.if_icmp .eq 5, 3, 0, 10, [])]
def KX7_takes_8 : List RI := [(.iconst 0, 1, 0, 0, []), (.ireturn, 1, 2, 0, [])]
def KX7_takes_10 : List RI := [(.aload_n 0, 1, 0, 0, []), (.invokevirtual 57, 3, 0, 128, [(0, 0), (0, 0), (0, 0), (0, 0), (0, 0), (0, 0), (0, 0), (0, 0)]), (.iconst 1, 1, 0, 0, []), (.ireturn, 1, 2, 0, [])]
def KX7_takes : RB := [(0, KX7_takes_0), (8, KX7_takes_8), (10, KX7_takes_10)]
def rX7_takes : CmC := (yX7_takes, cX7_takes, 2, (some .boolean), 1, 8, false)
theorem hX7_takes : mtC[130]? = some rX7_takes := rfl
set_option maxRecDepth 100000 in
theorem okX7_takes : cokMC rX7_takes KX7_takes = true := cokMC_of [] (fun _ h => absurd h List.not_mem_nil) (by decide +kernel) (by decide +kernel)
def KX7_isTooDeep_0 : List RI := [(.iload_n 1, 1, 0, 1, []), (.bipush 20, 2, 0, 0, []), (.if_icmp .le 8, 3, 0, 11, [])]
def KX7_isTooDeep_6 : List RI := [(.aload_n 0, 1, 0, 0, []), (.iconst 3, 1, 0, 0, []), (.invokevirtual 53, 3, 1, 127, [(0, 0), (0, 0), (0, 0), (0, 0), (0, 0), (0, 0), (0, 0), (0, 0)])]
def KX7_isTooDeep_11 : List RI := [(.iload_n 1, 1, 0, 1, []), (.bipush 20, 2, 0, 0, []), (.if_icmp .le 7, 3, 0, 21, [])]
def KX7_isTooDeep_17 : List RI := [(.iconst 1, 1, 0, 0, []), (.goto 4, 3, 0, 22, [])]
def KX7_isTooDeep_21 : List RI := [(.iconst 0, 1, 0, 0, [])]
def KX7_isTooDeep_22 : List RI := [(.ireturn, 1, 2, 0, [])]
def KX7_isTooDeep : RB := [(0, KX7_isTooDeep_0), (6, KX7_isTooDeep_6), (11, KX7_isTooDeep_11), (17, KX7_isTooDeep_17), (21, KX7_isTooDeep_21), (22, KX7_isTooDeep_22)]
def rX7_isTooDeep : CmC := (yX7_isTooDeep, cX7_isTooDeep, 2, (some .boolean), 1, 8, false)
theorem hX7_isTooDeep : mtC[131]? = some rX7_isTooDeep := rfl
set_option maxRecDepth 100000 in
theorem okX7_isTooDeep : cokMC rX7_isTooDeep KX7_isTooDeep = true := cokMC_of [] (fun _ h => absurd h List.not_mem_nil) (by decide +kernel) (by decide +kernel)
def KX7_isType_0 : List RI := [(.iload_n 0, 1, 0, 0, []), (.bipush 50, 2, 0, 0, []), (.if_icmp .lt 13, 3, 0, 16, [])]
def KX7_isType_6 : List RI := [(.iload_n 0, 1, 0, 0, []), (.bipush 55, 2, 0, 0, []), (.if_icmp .ge 7, 3, 0, 16, [])]
def KX7_isType_12 : List RI := [(.iconst 1, 1, 0, 0, []), (.goto 4, 3, 0, 17, [])]
def KX7_isType_16 : List RI := [(.iconst 0, 1, 0, 0, [])]
def KX7_isType_17 : List RI := [(.ireturn, 1, 2, 0, [])]
def KX7_isType : RB := [(0, KX7_isType_0), (6, KX7_isType_6), (12, KX7_isType_12), (16, KX7_isType_16), (17, KX7_isType_17)]
def rX7_isType : CmC := (yX7_isType, cX7_isType, 1, (some .boolean), 1, 8, true)
theorem hX7_isType : mtC[132]? = some rX7_isType := rfl
set_option maxRecDepth 100000 in
theorem okX7_isType : cokMC rX7_isType KX7_isType = true := cokMC_of [] (fun _ h => absurd h List.not_mem_nil) (by decide +kernel) (by decide +kernel)
def KX7_isAssign_0 : List RI := [(.iload_n 0, 1, 0, 0, []), (.bipush 8, 2, 0, 0, []), (.if_icmp .lt 13, 3, 0, 16, [])]
def KX7_isAssign_6 : List RI := [(.iload_n 0, 1, 0, 0, []), (.bipush 19, 2, 0, 0, []), (.if_icmp .gt 7, 3, 0, 16, [])]
def KX7_isAssign_12 : List RI := [(.iconst 1, 1, 0, 0, []), (.goto 4, 3, 0, 17, [])]
def KX7_isAssign_16 : List RI := [(.iconst 0, 1, 0, 0, [])]
def KX7_isAssign_17 : List RI := [(.ireturn, 1, 2, 0, [])]
def KX7_isAssign : RB := [(0, KX7_isAssign_0), (6, KX7_isAssign_6), (12, KX7_isAssign_12), (16, KX7_isAssign_16), (17, KX7_isAssign_17)]
def rX7_isAssign : CmC := (yX7_isAssign, cX7_isAssign, 1, (some .boolean), 1, 8, true)
theorem hX7_isAssign : mtC[133]? = some rX7_isAssign := rfl
set_option maxRecDepth 100000 in
theorem okX7_isAssign : cokMC rX7_isAssign KX7_isAssign = true := cokMC_of [] (fun _ h => absurd h List.not_mem_nil) (by decide +kernel) (by decide +kernel)
def KX7_readMethod_0 : List RI := [(.aload_n 0, 1, 0, 0, []), (.invokevirtual 38, 3, 0, 125, [(0, 0), (0, 0), (0, 0), (0, 0), (0, 0), (0, 0), (0, 0), (0, 0)]), (.bipush 50, 2, 0, 0, []), (.isub, 1, 0, 0, []), (.istore_n 1, 1, 0, 1, []), (.aload_n 0, 1, 0, 0, []), (.invokevirtual 38, 3, 0, 125, [(0, 0), (0, 0), (0, 0), (0, 0), (0, 0), (0, 0), (0, 0), (0, 0)]), (.invokestatic 60, 3, 1, 132, []), (.ifCond .ne 17, 3, 0, 32, [])]
def KX7_readMethod_18 : List RI := [(.aload_n 0, 1, 0, 0, []), (.invokevirtual 38, 3, 0, 125, [(0, 0), (0, 0), (0, 0), (0, 0), (0, 0), (0, 0), (0, 0), (0, 0)]), (.bipush 55, 2, 0, 0, []), (.if_icmp .eq 8, 3, 0, 32, [])]
def KX7_readMethod_27 : List RI := [(.aload_n 0, 1, 0, 0, []), (.iconst 2, 1, 0, 0, []), (.invokevirtual 53, 3, 1, 127, [(0, 0), (0, 0), (0, 0), (0, 0), (0, 0), (0, 0), (0, 0), (0, 0)])]
def KX7_readMethod_32 : List RI := [(.aload_n 0, 1, 0, 0, []), (.invokevirtual 57, 3, 0, 128, [(0, 0), (0, 0), (0, 0), (0, 0), (0, 0), (0, 0), (0, 0), (0, 0)]), (.aload_n 0, 1, 0, 0, []), (.getfield 9, 3, 0, 240, []), (.getfield 64, 3, 0, 211, []), (.invokevirtual 68, 3, 0, 234, []), (.istore_n 2, 1, 0, 2, []), (.aload_n 0, 1, 0, 0, []), (.invokevirtual 38, 3, 0, 125, [(0, 0), (0, 0), (0, 0), (0, 0), (0, 0), (0, 0), (0, 0), (0, 0)]), (.bipush 80, 2, 0, 0, []), (.if_icmp .eq 11, 3, 0, 64, [])]
def KX7_readMethod_56 : List RI := [(.aload_n 0, 1, 0, 0, []), (.iconst 2, 1, 0, 0, []), (.invokevirtual 53, 3, 1, 127, [(0, 0), (0, 0), (0, 0), (0, 0), (0, 0), (0, 0), (0, 0), (0, 0)]), (.goto 14, 3, 0, 75, [])]
def KX7_readMethod_64 : List RI := [(.iload_n 2, 1, 0, 2, []), (.bipush 10, 2, 0, 0, []), (.if_icmp .lt 8, 3, 0, 75, [])]
def KX7_readMethod_70 : List RI := [(.aload_n 0, 1, 0, 0, []), (.iconst 3, 1, 0, 0, []), (.invokevirtual 53, 3, 1, 127, [(0, 0), (0, 0), (0, 0), (0, 0), (0, 0), (0, 0), (0, 0), (0, 0)])]
def KX7_readMethod_75 : List RI := [(.aload_n 0, 1, 0, 0, []), (.getfield 35, 3, 0, 243, []), (.ifCond .eq 4, 3, 0, 83, [])]
def KX7_readMethod_82 : List RI := [(.return_, 1, 0, 0, [])]
def KX7_readMethod_83 : List RI := [(.new 73, 3, 0, 6, []), (.dup, 1, 0, 0, []), (.aload_n 0, 1, 0, 0, []), (.getfield 31, 3, 0, 242, []), (.aload_n 0, 1, 0, 0, []), (.getfield 21, 3, 0, 241, []), (.getfield 75, 3, 0, 304, []), (.aload_n 0, 1, 0, 0, []), (.getfield 31, 3, 0, 242, []), (.laload, 1, 0, 0, []), (.iload_n 1, 1, 0, 1, []), (.aload_n 0, 1, 0, 0, []), (.getfield 9, 3, 0, 240, []), (.getfield 79, 3, 0, 212, []), (.invokevirtual 68, 3, 0, 234, []), (.invokespecial 82, 3, 4, 111, []), (.astore_n 3, 1, 0, 3, []), (.aload_n 0, 1, 0, 0, []), (.getfield 9, 3, 0, 240, []), (.getfield 64, 3, 0, 211, []), (.aload_n 3, 1, 0, 3, []), (.invokevirtual 85, 3, 1, 236, []), (.pop, 1, 0, 0, []), (.aload_n 0, 1, 0, 0, []), (.getfield 21, 3, 0, 241, []), (.getfield 89, 3, 0, 303, []), (.aload_n 0, 1, 0, 0, []), (.getfield 31, 3, 0, 242, []), (.bipush 100, 2, 0, 0, []), (.iload_n 2, 1, 0, 2, []), (.iadd, 1, 0, 0, []), (.iastore, 1, 0, 0, []), (.aload_n 0, 1, 0, 0, []), (.invokevirtual 57, 3, 0, 128, [(0, 0), (0, 0), (0, 0), (0, 0), (0, 0), (0, 0), (0, 0), (0, 0)]), (.aload_n 0, 1, 0, 0, []), (.lconst 0, 1, 0, 0, []), (.putfield 92, 3, 0, 245, []), (.aload_n 0, 1, 0, 0, []), (.aconst_null, 1, 0, 0, []), (.putfield 96, 3, 0, 246, []), (.aload_n 0, 1, 0, 0, []), (.aload_n 3, 1, 0, 3, []), (.invokevirtual 100, 3, 1, 135, [(0, 0), (0, 0), (0, 0), (0, 0), (0, 0), (0, 0), (0, 0), (0, 0)]), (.aload_n 3, 1, 0, 3, []), (.aload_n 0, 1, 0, 0, []), (.iconst 0, 1, 0, 0, []), (.invokevirtual 104, 3, 1, 143, [(0, 0), (0, 0), (0, 0), (0, 0), (0, 0), (0, 0), (0, 0), (0, 0)]), (.putfield 108, 3, 0, 186, []), (.return_, 1, 0, 0, [])]
def KX7_readMethod : RB := [(0, KX7_readMethod_0), (18, KX7_readMethod_18), (27, KX7_readMethod_27), (32, KX7_readMethod_32), (56, KX7_readMethod_56), (64, KX7_readMethod_64), (70, KX7_readMethod_70), (75, KX7_readMethod_75), (82, KX7_readMethod_82), (83, KX7_readMethod_83)]
def rX7_readMethod : CmC := (yX7_readMethod, cX7_readMethod, 4, none, 0, 8, false)
theorem hX7_readMethod : mtC[134]? = some rX7_readMethod := rfl
set_option maxRecDepth 100000 in
theorem okX7_readMethod : cokMC rX7_readMethod KX7_readMethod = true := cokMC_of [] (fun _ h => absurd h List.not_mem_nil) (by decide +kernel) (by decide +kernel)
def KX7_readParams_0 : List RI := [(.aload_n 0, 1, 0, 0, []), (.iconst 0, 1, 0, 0, []), (.invokevirtual 111, 3, 1, 129, [(0, 0), (0, 0), (0, 0), (0, 0), (0, 0), (0, 0), (0, 0), (0, 0)]), (.aload_n 0, 1, 0, 0, []), (.invokevirtual 38, 3, 0, 125, [(0, 0), (0, 0), (0, 0), (0, 0), (0, 0), (0, 0), (0, 0), (0, 0)]), (.iconst 1, 1, 0, 0, []), (.if_icmp .eq 79, 3, 0, 89, [])]
def KX7_readParams_13 : List RI := [(.iconst 1, 1, 0, 0, []), (.istore_n 2, 1, 0, 2, []), (.iconst 0, 1, 0, 0, []), (.istore_n 3, 1, 0, 3, [])]
def KX7_readParams_17 : List RI := [(.iload_n 2, 1, 0, 2, []), (.ifCond .eq 71, 3, 0, 89, [])]
def KX7_readParams_21 : List RI := [(.iload_n 3, 1, 0, 3, []), (.bipush 6, 2, 0, 0, []), (.if_icmp .gt 65, 3, 0, 89, [])]
def KX7_readParams_27 : List RI := [(.aload_n 0, 1, 0, 0, []), (.bipush 71, 2, 0, 0, []), (.invokevirtual 114, 3, 1, 130, [(0, 0), (0, 0), (0, 0), (0, 0), (0, 0), (0, 0), (0, 0), (0, 0)]), (.istore 4, 2, 0, 0, []), (.aload_n 0, 1, 0, 0, []), (.invokevirtual 117, 3, 0, 136, [(0, 0), (0, 0), (0, 0), (0, 0), (0, 0), (0, 0), (0, 0), (0, 0)]), (.istore 5, 2, 0, 0, []), (.aload_n 0, 1, 0, 0, []), (.iload 5, 2, 0, 0, []), (.iload 4, 2, 0, 0, []), (.aload_n 1, 1, 0, 1, []), (.getfield 120, 3, 0, 185, []), (.bipush 6, 2, 0, 0, []), (.if_icmp .ge 7, 3, 0, 59, [])]
def KX7_readParams_55 : List RI := [(.iconst 1, 1, 0, 0, []), (.goto 4, 3, 0, 60, [])]
def KX7_readParams_59 : List RI := [(.iconst 0, 1, 0, 0, [])]
def KX7_readParams_60 : List RI := [(.invokevirtual 123, 3, 3, 137, [(0, 0), (0, 0), (0, 0), (0, 0), (0, 0), (0, 0), (0, 0), (0, 0)]), (.istore 6, 2, 0, 0, []), (.aload_n 0, 1, 0, 0, []), (.iload 6, 2, 0, 0, []), (.invokevirtual 127, 3, 1, 138, [(0, 0), (0, 0), (0, 0), (0, 0), (0, 0), (0, 0), (0, 0), (0, 0)]), (.aload_n 1, 1, 0, 1, []), (.iload 5, 2, 0, 0, []), (.invokevirtual 130, 3, 1, 112, [(0, 0), (0, 0), (0, 0), (0, 0), (0, 0), (0, 0)]), (.aload_n 0, 1, 0, 0, []), (.iconst 5, 1, 0, 0, []), (.invokevirtual 114, 3, 1, 130, [(0, 0), (0, 0), (0, 0), (0, 0), (0, 0), (0, 0), (0, 0), (0, 0)]), (.istore_n 2, 1, 0, 2, []), (.iinc 3 1, 3, 0, 0, []), (.goto (-69), 3, 0, 17, [])]
def KX7_readParams_89 : List RI := [(.aload_n 0, 1, 0, 0, []), (.iconst 1, 1, 0, 0, []), (.invokevirtual 111, 3, 1, 129, [(0, 0), (0, 0), (0, 0), (0, 0), (0, 0), (0, 0), (0, 0), (0, 0)]), (.return_, 1, 0, 0, [])]
def KX7_readParams : RB := [(0, KX7_readParams_0), (13, KX7_readParams_13), (17, KX7_readParams_17), (21, KX7_readParams_21), (27, KX7_readParams_27), (55, KX7_readParams_55), (59, KX7_readParams_59), (60, KX7_readParams_60), (89, KX7_readParams_89)]
def rX7_readParams : CmC := (yX7_readParams, cX7_readParams, 7, none, 1, 8, false)
theorem hX7_readParams : mtC[135]? = some rX7_readParams := rfl
set_option maxRecDepth 100000 in
theorem okX7_readParams : cokMC rX7_readParams KX7_readParams = true := cokMC_of [] (fun _ h => absurd h List.not_mem_nil) (by decide +kernel) (by decide +kernel)
def KX7_readType_0 : List RI := [(.aload_n 0, 1, 0, 0, []), (.invokevirtual 38, 3, 0, 125, [(0, 0), (0, 0), (0, 0), (0, 0), (0, 0), (0, 0), (0, 0), (0, 0)]), (.bipush 50, 2, 0, 0, []), (.isub, 1, 0, 0, []), (.istore_n 1, 1, 0, 1, []), (.aload_n 0, 1, 0, 0, []), (.invokevirtual 38, 3, 0, 125, [(0, 0), (0, 0), (0, 0), (0, 0), (0, 0), (0, 0), (0, 0), (0, 0)]), (.invokestatic 60, 3, 1, 132, []), (.ifCond .ne 10, 3, 0, 25, [])]
def KX7_readType_18 : List RI := [(.aload_n 0, 1, 0, 0, []), (.iconst 2, 1, 0, 0, []), (.invokevirtual 53, 3, 1, 127, [(0, 0), (0, 0), (0, 0), (0, 0), (0, 0), (0, 0), (0, 0), (0, 0)]), (.iconst 3, 1, 0, 0, []), (.ireturn, 1, 1, 0, [])]
def KX7_readType_25 : List RI := [(.aload_n 0, 1, 0, 0, []), (.invokevirtual 57, 3, 0, 128, [(0, 0), (0, 0), (0, 0), (0, 0), (0, 0), (0, 0), (0, 0), (0, 0)]), (.iload_n 1, 1, 0, 1, []), (.ireturn, 1, 1, 0, [])]
def KX7_readType : RB := [(0, KX7_readType_0), (18, KX7_readType_18), (25, KX7_readType_25)]
def rX7_readType : CmC := (yX7_readType, cX7_readType, 2, (some .int), 0, 8, false)
theorem hX7_readType : mtC[136]? = some rX7_readType := rfl
set_option maxRecDepth 100000 in
theorem okX7_readType : cokMC rX7_readType KX7_readType = true := cokMC_of [] (fun _ h => absurd h List.not_mem_nil) (by decide +kernel) (by decide +kernel)
def KX7_declare_0 : List RI := [(.aload_n 0, 1, 0, 0, []), (.getfield 9, 3, 0, 240, []), (.getfield 79, 3, 0, 212, []), (.invokevirtual 68, 3, 0, 234, []), (.istore 4, 2, 0, 0, []), (.aload_n 0, 1, 0, 0, []), (.invokevirtual 38, 3, 0, 125, [(0, 0), (0, 0), (0, 0), (0, 0), (0, 0), (0, 0), (0, 0), (0, 0)]), (.bipush 80, 2, 0, 0, []), (.if_icmp .eq 11, 3, 0, 29, [])]
def KX7_declare_21 : List RI := [(.aload_n 0, 1, 0, 0, []), (.iconst 2, 1, 0, 0, []), (.invokevirtual 53, 3, 1, 127, [(0, 0), (0, 0), (0, 0), (0, 0), (0, 0), (0, 0), (0, 0), (0, 0)]), (.goto 19, 3, 0, 45, [])]
def KX7_declare_29 : List RI := [(.iload_n 3, 1, 0, 3, []), (.ifCond .eq 10, 3, 0, 40, [])]
def KX7_declare_33 : List RI := [(.iload 4, 2, 0, 0, []), (.bipush 60, 2, 0, 0, []), (.if_icmp .lt 8, 3, 0, 45, [])]
def KX7_declare_40 : List RI := [(.aload_n 0, 1, 0, 0, []), (.iconst 3, 1, 0, 0, []), (.invokevirtual 53, 3, 1, 127, [(0, 0), (0, 0), (0, 0), (0, 0), (0, 0), (0, 0), (0, 0), (0, 0)])]
def KX7_declare_45 : List RI := [(.aload_n 0, 1, 0, 0, []), (.getfield 35, 3, 0, 243, []), (.ifCond .eq 5, 3, 0, 54, [])]
def KX7_declare_52 : List RI := [(.iconst (-1), 1, 0, 0, []), (.ireturn, 1, 1, 0, [])]
def KX7_declare_54 : List RI := [(.new 133, 3, 0, 11, []), (.dup, 1, 0, 0, []), (.aload_n 0, 1, 0, 0, []), (.getfield 31, 3, 0, 242, []), (.iload_n 1, 1, 0, 1, []), (.iload_n 2, 1, 0, 2, []), (.aload_n 0, 1, 0, 0, []), (.getfield 9, 3, 0, 240, []), (.getfield 64, 3, 0, 211, []), (.invokevirtual 68, 3, 0, 234, []), (.iconst 1, 1, 0, 0, []), (.isub, 1, 0, 0, []), (.invokespecial 135, 3, 4, 199, []), (.astore 5, 2, 0, 0, []), (.aload 5, 2, 0, 0, []), (.aload_n 0, 1, 0, 0, []), (.aload_n 0, 1, 0, 0, []), (.getfield 21, 3, 0, 241, []), (.getfield 75, 3, 0, 304, []), (.aload_n 0, 1, 0, 0, []), (.getfield 31, 3, 0, 242, []), (.laload, 1, 0, 0, []), (.invokevirtual 138, 3, 1, 139, [(0, 0), (0, 0), (0, 0), (0, 0), (0, 0), (0, 0), (0, 0), (0, 0)]), (.ifCond .lt 7, 3, 0, 106, [])]
def KX7_declare_102 : List RI := [(.iconst 1, 1, 0, 0, []), (.goto 4, 3, 0, 107, [])]
def KX7_declare_106 : List RI := [(.iconst 0, 1, 0, 0, [])]
def KX7_declare_107 : List RI := [(.putfield 142, 3, 0, 334, []), (.aload_n 0, 1, 0, 0, []), (.getfield 9, 3, 0, 240, []), (.getfield 79, 3, 0, 212, []), (.aload 5, 2, 0, 0, []), (.invokevirtual 85, 3, 1, 236, []), (.pop, 1, 0, 0, []), (.aload_n 0, 1, 0, 0, []), (.getfield 21, 3, 0, 241, []), (.getfield 89, 3, 0, 303, []), (.aload_n 0, 1, 0, 0, []), (.getfield 31, 3, 0, 242, []), (.iload 4, 2, 0, 0, []), (.iastore, 1, 0, 0, []), (.aload_n 0, 1, 0, 0, []), (.invokevirtual 57, 3, 0, 128, [(0, 0), (0, 0), (0, 0), (0, 0), (0, 0), (0, 0), (0, 0), (0, 0)]), (.iload 4, 2, 0, 0, []), (.ireturn, 1, 1, 0, [])]
def KX7_declare : RB := [(0, KX7_declare_0), (21, KX7_declare_21), (29, KX7_declare_29), (33, KX7_declare_33), (40, KX7_declare_40), (45, KX7_declare_45), (52, KX7_declare_52), (54, KX7_declare_54), (102, KX7_declare_102), (106, KX7_declare_106), (107, KX7_declare_107)]
def rX7_declare : CmC := (yX7_declare, cX7_declare, 6, (some .int), 3, 8, false)
theorem hX7_declare : mtC[137]? = some rX7_declare := rfl
set_option maxRecDepth 100000 in
theorem okX7_declare : cokMC rX7_declare KX7_declare = true := cokMC_of [] (fun _ h => absurd h List.not_mem_nil) (by decide +kernel) (by decide +kernel)
def KX7_know_0 : List RI := [(.iload_n 1, 1, 0, 1, []), (.ifCond .lt 16, 3, 0, 17, [])]
def KX7_know_4 : List RI := [(.aload_n 0, 1, 0, 0, []), (.dup, 1, 0, 0, []), (.getfield 92, 3, 0, 245, []), (.iload_n 1, 1, 0, 1, []), (.invokestatic 146, 3, 1, 222, []), (.lor, 1, 0, 0, []), (.putfield 92, 3, 0, 245, [])]
def KX7_know_17 : List RI := [(.return_, 1, 0, 0, [])]
def KX7_know : RB := [(0, KX7_know_0), (4, KX7_know_4), (17, KX7_know_17)]
def rX7_know : CmC := (yX7_know, cX7_know, 2, none, 1, 8, false)
theorem hX7_know : mtC[138]? = some rX7_know := rfl
set_option maxRecDepth 100000 in
theorem okX7_know : cokMC rX7_know KX7_know = true := cokMC_of [] (fun _ h => absurd h List.not_mem_nil) (by decide +kernel) (by decide +kernel)
def KX7_lookUp_0 : List RI := [(.aload_n 0, 1, 0, 0, []), (.getfield 9, 3, 0, 240, []), (.getfield 79, 3, 0, 212, []), (.invokevirtual 68, 3, 0, 234, []), (.iconst 1, 1, 0, 0, []), (.isub, 1, 0, 0, []), (.istore_n 3, 1, 0, 3, [])]
def KX7_lookUp_13 : List RI := [(.iload_n 3, 1, 0, 3, []), (.ifCond .lt 52, 3, 0, 66, [])]
def KX7_lookUp_17 : List RI := [(.aload_n 0, 1, 0, 0, []), (.getfield 92, 3, 0, 245, []), (.iload_n 3, 1, 0, 3, []), (.invokestatic 150, 3, 2, 221, []), (.ifCond .eq 35, 3, 0, 60, [])]
def KX7_lookUp_28 : List RI := [(.aload_n 0, 1, 0, 0, []), (.getfield 21, 3, 0, 241, []), (.getfield 75, 3, 0, 304, []), (.aload_n 0, 1, 0, 0, []), (.getfield 9, 3, 0, 240, []), (.getfield 79, 3, 0, 212, []), (.iload_n 3, 1, 0, 3, []), (.invokevirtual 154, 3, 1, 235, []), (.checkcast 133, 3, 0, 11, []), (.getfield 158, 3, 0, 330, []), (.laload, 1, 0, 0, []), (.lload_n 1, 1, 0, 1, []), (.lcmp, 1, 0, 0, []), (.ifCond .ne 5, 3, 0, 60, [])]
def KX7_lookUp_58 : List RI := [(.iload_n 3, 1, 0, 3, []), (.ireturn, 1, 1, 0, [])]
def KX7_lookUp_60 : List RI := [(.iinc 3 (-1), 3, 0, 0, []), (.goto (-50), 3, 0, 13, [])]
def KX7_lookUp_66 : List RI := [(.iconst (-1), 1, 0, 0, []), (.ireturn, 1, 1, 0, [])]
def KX7_lookUp : RB := [(0, KX7_lookUp_0), (13, KX7_lookUp_13), (17, KX7_lookUp_17), (28, KX7_lookUp_28), (58, KX7_lookUp_58), (60, KX7_lookUp_60), (66, KX7_lookUp_66)]
def rX7_lookUp : CmC := (yX7_lookUp, cX7_lookUp, 4, (some .int), 1, 8, false)
theorem hX7_lookUp : mtC[139]? = some rX7_lookUp := rfl
set_option maxRecDepth 100000 in
theorem okX7_lookUp : cokMC rX7_lookUp KX7_lookUp = true := cokMC_of [] (fun _ h => absurd h List.not_mem_nil) (by decide +kernel) (by decide +kernel)
def KX7_meant_0 : List RI := [(.aload_n 0, 1, 0, 0, []), (.aload_n 0, 1, 0, 0, []), (.getfield 21, 3, 0, 241, []), (.getfield 75, 3, 0, 304, []), (.iload_n 1, 1, 0, 1, []), (.laload, 1, 0, 0, []), (.invokevirtual 138, 3, 1, 139, [(0, 0), (0, 0), (0, 0), (0, 0), (0, 0), (0, 0), (0, 0), (0, 0)]), (.istore_n 2, 1, 0, 2, []), (.aload_n 0, 1, 0, 0, []), (.getfield 21, 3, 0, 241, []), (.getfield 89, 3, 0, 303, []), (.iload_n 1, 1, 0, 1, []), (.iload_n 2, 1, 0, 2, []), (.iastore, 1, 0, 0, []), (.iload_n 2, 1, 0, 2, []), (.ireturn, 1, 1, 0, [])]
def KX7_meant : RB := [(0, KX7_meant_0)]
def rX7_meant : CmC := (yX7_meant, cX7_meant, 3, (some .int), 1, 8, false)
theorem hX7_meant : mtC[140]? = some rX7_meant := rfl
set_option maxRecDepth 100000 in
theorem okX7_meant : cokMC rX7_meant KX7_meant = true := cokMC_of [] (fun _ h => absurd h List.not_mem_nil) (by decide +kernel) (by decide +kernel)
def KX7_readVariable_0 : List RI := [(.aload_n 0, 1, 0, 0, []), (.iload_n 1, 1, 0, 1, []), (.iload_n 2, 1, 0, 2, []), (.invokevirtual 161, 3, 2, 142, [(0, 0), (0, 0), (0, 0), (0, 0), (0, 0), (0, 0), (0, 0), (0, 0)]), (.astore_n 3, 1, 0, 3, []), (.aload_n 0, 1, 0, 0, []), (.bipush 71, 2, 0, 0, []), (.invokevirtual 114, 3, 1, 130, [(0, 0), (0, 0), (0, 0), (0, 0), (0, 0), (0, 0), (0, 0), (0, 0)]), (.istore 4, 2, 0, 0, []), (.aload_n 0, 1, 0, 0, []), (.invokevirtual 117, 3, 0, 136, [(0, 0), (0, 0), (0, 0), (0, 0), (0, 0), (0, 0), (0, 0), (0, 0)]), (.istore 5, 2, 0, 0, []), (.aload_n 3, 1, 0, 3, []), (.aload_n 0, 1, 0, 0, []), (.iload 5, 2, 0, 0, []), (.iload 4, 2, 0, 0, []), (.iconst 1, 1, 0, 0, []), (.invokevirtual 123, 3, 3, 137, [(0, 0), (0, 0), (0, 0), (0, 0), (0, 0), (0, 0), (0, 0), (0, 0)]), (.putfield 165, 3, 0, 280, []), (.aload_n 0, 1, 0, 0, []), (.aload_n 3, 1, 0, 3, []), (.getfield 165, 3, 0, 280, []), (.invokevirtual 127, 3, 1, 138, [(0, 0), (0, 0), (0, 0), (0, 0), (0, 0), (0, 0), (0, 0), (0, 0)]), (.iload 4, 2, 0, 0, []), (.ifCond .ne 12, 3, 0, 56, [])]
def KX7_readVariable_47 : List RI := [(.aload_n 0, 1, 0, 0, []), (.invokevirtual 38, 3, 0, 125, [(0, 0), (0, 0), (0, 0), (0, 0), (0, 0), (0, 0), (0, 0), (0, 0)]), (.bipush 8, 2, 0, 0, []), (.if_icmp .ne 67, 3, 0, 120, [])]
def KX7_readVariable_56 : List RI := [(.aload_n 0, 1, 0, 0, []), (.bipush 8, 2, 0, 0, []), (.invokevirtual 111, 3, 1, 129, [(0, 0), (0, 0), (0, 0), (0, 0), (0, 0), (0, 0), (0, 0), (0, 0)]), (.aload_n 3, 1, 0, 3, []), (.aload_n 0, 1, 0, 0, []), (.iload_n 2, 1, 0, 2, []), (.invokevirtual 170, 3, 1, 164, [(0, 0), (0, 0), (0, 0), (0, 0), (0, 0), (0, 0), (0, 0), (0, 0)]), (.putfield 174, 3, 0, 279, []), (.new 178, 3, 0, 2, []), (.dup, 1, 0, 0, []), (.bipush 15, 2, 0, 0, []), (.bipush 8, 2, 0, 0, []), (.aload_n 3, 1, 0, 3, []), (.getfield 180, 3, 0, 271, []), (.aload_n 3, 1, 0, 3, []), (.getfield 174, 3, 0, 279, []), (.getfield 183, 3, 0, 63, []), (.invokespecial 186, 3, 4, 17, []), (.astore 6, 2, 0, 0, []), (.aload 6, 2, 0, 0, []), (.aload_n 3, 1, 0, 3, []), (.getfield 165, 3, 0, 280, []), (.putfield 189, 3, 0, 67, []), (.aload 6, 2, 0, 0, []), (.aload_n 3, 1, 0, 3, []), (.getfield 174, 3, 0, 279, []), (.putfield 190, 3, 0, 72, []), (.aload_n 0, 1, 0, 0, []), (.aload 6, 2, 0, 0, []), (.invokevirtual 193, 3, 1, 161, [(0, 0), (0, 0), (0, 0), (0, 0), (0, 0), (0, 0), (0, 0), (0, 0)]), (.pop, 1, 0, 0, [])]
def KX7_readVariable_120 : List RI := [(.aload_n 3, 1, 0, 3, []), (.areturn, 1, 0, 0, [])]
def KX7_readVariable : RB := [(0, KX7_readVariable_0), (47, KX7_readVariable_47), (56, KX7_readVariable_56), (120, KX7_readVariable_120)]
def rX7_readVariable : CmC := (yX7_readVariable, cX7_readVariable, 7, (some (.object "PlainJava$Statement")), 2, 8, false)
theorem hX7_readVariable : mtC[141]? = some rX7_readVariable := rfl
set_option maxRecDepth 100000 in
theorem okX7_readVariable : cokMC rX7_readVariable KX7_readVariable = true := cokMC_of [] (fun _ h => absurd h List.not_mem_nil) (by decide +kernel) (by decide +kernel)
def KX7_begin_0 : List RI := [(.new 166, 3, 0, 9, []), (.dup, 1, 0, 0, []), (.iload_n 1, 1, 0, 1, []), (.aload_n 0, 1, 0, 0, []), (.getfield 31, 3, 0, 242, []), (.iload_n 2, 1, 0, 2, []), (.aload_n 0, 1, 0, 0, []), (.getfield 96, 3, 0, 246, []), (.aload_n 0, 1, 0, 0, []), (.getfield 92, 3, 0, 245, []), (.invokespecial 197, 3, 5, 178, []), (.astore_n 3, 1, 0, 3, []), (.aload_n 0, 1, 0, 0, []), (.getfield 9, 3, 0, 240, []), (.getfield 200, 3, 0, 214, []), (.aload_n 3, 1, 0, 3, []), (.invokevirtual 85, 3, 1, 236, []), (.pop, 1, 0, 0, []), (.aload_n 3, 1, 0, 3, []), (.areturn, 1, 0, 0, [])]
def KX7_begin : RB := [(0, KX7_begin_0)]
def rX7_begin : CmC := (yX7_begin, cX7_begin, 4, (some (.object "PlainJava$Statement")), 2, 8, false)
theorem hX7_begin : mtC[142]? = some rX7_begin := rfl
set_option maxRecDepth 100000 in
theorem okX7_begin : cokMC rX7_begin KX7_begin = true := cokMC_of [] (fun _ h => absurd h List.not_mem_nil) (by decide +kernel) (by decide +kernel)
def KX7_readBody_0 : List RI := [(.aload_n 0, 1, 0, 0, []), (.bipush 92, 2, 0, 0, []), (.iload_n 1, 1, 0, 1, []), (.invokevirtual 161, 3, 2, 142, [(0, 0), (0, 0), (0, 0), (0, 0), (0, 0), (0, 0), (0, 0), (0, 0)]), (.astore_n 2, 1, 0, 2, []), (.aload_n 0, 1, 0, 0, []), (.aload_n 2, 1, 0, 2, []), (.iload_n 1, 1, 0, 1, []), (.invokevirtual 203, 3, 2, 144, [(0, 0), (0, 0), (0, 0), (0, 0), (0, 0), (0, 0), (0, 0), (0, 0)]), (.aload_n 2, 1, 0, 2, []), (.areturn, 1, 0, 0, [])]
def KX7_readBody : RB := [(0, KX7_readBody_0)]
def rX7_readBody : CmC := (yX7_readBody, cX7_readBody, 3, (some (.object "PlainJava$Statement")), 1, 8, false)
theorem hX7_readBody : mtC[143]? = some rX7_readBody := rfl
set_option maxRecDepth 100000 in
theorem okX7_readBody : cokMC rX7_readBody KX7_readBody = true := cokMC_of [] (fun _ h => absurd h List.not_mem_nil) (by decide +kernel) (by decide +kernel)
def KX7_readBlock_0 : List RI := [(.aload_n 0, 1, 0, 0, []), (.getfield 96, 3, 0, 246, []), (.astore_n 3, 1, 0, 3, []), (.aload_n 0, 1, 0, 0, []), (.getfield 92, 3, 0, 245, []), (.lstore 4, 2, 0, 0, []), (.aload_n 0, 1, 0, 0, []), (.aload_n 1, 1, 0, 1, []), (.putfield 96, 3, 0, 246, []), (.aload_n 0, 1, 0, 0, []), (.iconst 2, 1, 0, 0, []), (.invokevirtual 111, 3, 1, 129, [(0, 0), (0, 0), (0, 0), (0, 0), (0, 0), (0, 0), (0, 0), (0, 0)]), (.aload_n 1, 1, 0, 1, []), (.aload_n 0, 1, 0, 0, []), (.iload_n 2, 1, 0, 2, []), (.iconst 1, 1, 0, 0, []), (.iadd, 1, 0, 0, []), (.iconst 0, 1, 0, 0, []), (.invokevirtual 207, 3, 2, 145, [(0, 0), (0, 0), (0, 0), (0, 0), (0, 0), (0, 0), (0, 0), (0, 0)]), (.putfield 211, 3, 0, 276, []), (.aload_n 0, 1, 0, 0, []), (.iconst 3, 1, 0, 0, []), (.invokevirtual 111, 3, 1, 129, [(0, 0), (0, 0), (0, 0), (0, 0), (0, 0), (0, 0), (0, 0), (0, 0)]), (.aload_n 0, 1, 0, 0, []), (.lload 4, 2, 0, 0, []), (.putfield 92, 3, 0, 245, []), (.aload_n 0, 1, 0, 0, []), (.aload_n 3, 1, 0, 3, []), (.putfield 96, 3, 0, 246, []), (.return_, 1, 0, 0, [])]
def KX7_readBlock : RB := [(0, KX7_readBlock_0)]
def rX7_readBlock : CmC := (yX7_readBlock, cX7_readBlock, 6, none, 2, 8, false)
theorem hX7_readBlock : mtC[144]? = some rX7_readBlock := rfl
set_option maxRecDepth 100000 in
theorem okX7_readBlock : cokMC rX7_readBlock KX7_readBlock = true := cokMC_of [] (fun _ h => absurd h List.not_mem_nil) (by decide +kernel) (by decide +kernel)
def KX7_readRow_0 : List RI := [(.aconst_null, 1, 0, 0, []), (.astore_n 3, 1, 0, 3, []), (.aconst_null, 1, 0, 0, []), (.astore 4, 2, 0, 0, []), (.aload_n 0, 1, 0, 0, []), (.iload_n 1, 1, 0, 1, []), (.invokevirtual 212, 3, 1, 131, [(0, 0), (0, 0), (0, 0), (0, 0), (0, 0), (0, 0), (0, 0), (0, 0)]), (.pop, 1, 0, 0, []), (.iconst 0, 1, 0, 0, []), (.istore 5, 2, 0, 0, [])]
def KX7_readRow_14 : List RI := [(.iload 5, 2, 0, 0, []), (.sipush 500, 3, 0, 0, []), (.if_icmp .gt 63, 3, 0, 82, [])]
def KX7_readRow_22 : List RI := [(.aload_n 0, 1, 0, 0, []), (.getfield 35, 3, 0, 243, []), (.ifCond .ne 56, 3, 0, 82, [])]
def KX7_readRow_29 : List RI := [(.aload_n 0, 1, 0, 0, []), (.invokevirtual 38, 3, 0, 125, [(0, 0), (0, 0), (0, 0), (0, 0), (0, 0), (0, 0), (0, 0), (0, 0)]), (.iconst 3, 1, 0, 0, []), (.if_icmp .eq 48, 3, 0, 82, [])]
def KX7_readRow_37 : List RI := [(.aload_n 0, 1, 0, 0, []), (.iload_n 1, 1, 0, 1, []), (.iload_n 2, 1, 0, 2, []), (.aload_n 3, 1, 0, 3, []), (.ifnonnull 7, 3, 0, 48, [])]
def KX7_readRow_44 : List RI := [(.iconst 1, 1, 0, 0, []), (.goto 4, 3, 0, 49, [])]
def KX7_readRow_48 : List RI := [(.iconst 0, 1, 0, 0, [])]
def KX7_readRow_49 : List RI := [(.invokevirtual 215, 3, 3, 146, [(0, 0), (0, 0), (0, 0), (0, 0), (0, 0), (0, 0), (0, 0), (0, 0)]), (.astore 6, 2, 0, 0, []), (.aload 4, 2, 0, 0, []), (.ifnonnull 9, 3, 0, 65, [])]
def KX7_readRow_59 : List RI := [(.aload 6, 2, 0, 0, []), (.astore_n 3, 1, 0, 3, []), (.goto 10, 3, 0, 72, [])]
def KX7_readRow_65 : List RI := [(.aload 4, 2, 0, 0, []), (.aload 6, 2, 0, 0, []), (.putfield 219, 3, 0, 275, [])]
def KX7_readRow_72 : List RI := [(.aload 6, 2, 0, 0, []), (.astore 4, 2, 0, 0, []), (.iinc 5 1, 3, 0, 0, []), (.goto (-65), 3, 0, 14, [])]
def KX7_readRow_82 : List RI := [(.aload_n 3, 1, 0, 3, []), (.areturn, 1, 0, 0, [])]
def KX7_readRow : RB := [(0, KX7_readRow_0), (14, KX7_readRow_14), (22, KX7_readRow_22), (29, KX7_readRow_29), (37, KX7_readRow_37), (44, KX7_readRow_44), (48, KX7_readRow_48), (49, KX7_readRow_49), (59, KX7_readRow_59), (65, KX7_readRow_65), (72, KX7_readRow_72), (82, KX7_readRow_82)]
def rX7_readRow : CmC := (yX7_readRow, cX7_readRow, 7, (some (.object "PlainJava$Statement")), 2, 8, false)
theorem hX7_readRow : mtC[145]? = some rX7_readRow := rfl
set_option maxRecDepth 100000 in
theorem okX7_readRow : cokMC rX7_readRow KX7_readRow = true := cokMC_of [] (fun _ h => absurd h List.not_mem_nil) (by decide +kernel) (by decide +kernel)
def KX7_readRowPart_0 : List RI := [(.iload_n 2, 1, 0, 2, []), (.ifCond .eq 27, 3, 0, 28, [])]
def KX7_readRowPart_4 : List RI := [(.aload_n 0, 1, 0, 0, []), (.invokevirtual 38, 3, 0, 125, [(0, 0), (0, 0), (0, 0), (0, 0), (0, 0), (0, 0), (0, 0), (0, 0)]), (.bipush 62, 2, 0, 0, []), (.if_icmp .eq 12, 3, 0, 22, [])]
def KX7_readRowPart_13 : List RI := [(.aload_n 0, 1, 0, 0, []), (.invokevirtual 38, 3, 0, 125, [(0, 0), (0, 0), (0, 0), (0, 0), (0, 0), (0, 0), (0, 0), (0, 0)]), (.bipush 63, 2, 0, 0, []), (.if_icmp .ne 9, 3, 0, 28, [])]
def KX7_readRowPart_22 : List RI := [(.aload_n 0, 1, 0, 0, []), (.iload_n 1, 1, 0, 1, []), (.invokevirtual 222, 3, 1, 147, [(0, 0), (0, 0), (0, 0), (0, 0), (0, 0), (0, 0), (0, 0), (0, 0)]), (.areturn, 1, 0, 0, [])]
def KX7_readRowPart_28 : List RI := [(.iload_n 2, 1, 0, 2, []), (.ifCond .eq 12, 3, 0, 41, [])]
def KX7_readRowPart_32 : List RI := [(.iload_n 3, 1, 0, 3, []), (.ifCond .eq 8, 3, 0, 41, [])]
def KX7_readRowPart_36 : List RI := [(.aload_n 0, 1, 0, 0, []), (.iconst 2, 1, 0, 0, []), (.invokevirtual 53, 3, 1, 127, [(0, 0), (0, 0), (0, 0), (0, 0), (0, 0), (0, 0), (0, 0), (0, 0)])]
def KX7_readRowPart_41 : List RI := [(.aload_n 0, 1, 0, 0, []), (.invokevirtual 38, 3, 0, 125, [(0, 0), (0, 0), (0, 0), (0, 0), (0, 0), (0, 0), (0, 0), (0, 0)]), (.bipush 71, 2, 0, 0, []), (.if_icmp .eq 13, 3, 0, 60, [])]
def KX7_readRowPart_50 : List RI := [(.aload_n 0, 1, 0, 0, []), (.invokevirtual 38, 3, 0, 125, [(0, 0), (0, 0), (0, 0), (0, 0), (0, 0), (0, 0), (0, 0), (0, 0)]), (.invokestatic 60, 3, 1, 132, []), (.ifCond .eq 20, 3, 0, 77, [])]
def KX7_readRowPart_60 : List RI := [(.aload_n 0, 1, 0, 0, []), (.bipush 91, 2, 0, 0, []), (.iload_n 1, 1, 0, 1, []), (.invokevirtual 225, 3, 2, 141, [(0, 0), (0, 0), (0, 0), (0, 0), (0, 0), (0, 0), (0, 0), (0, 0)]), (.astore 4, 2, 0, 0, []), (.aload_n 0, 1, 0, 0, []), (.iconst 4, 1, 0, 0, []), (.invokevirtual 111, 3, 1, 129, [(0, 0), (0, 0), (0, 0), (0, 0), (0, 0), (0, 0), (0, 0), (0, 0)]), (.aload 4, 2, 0, 0, []), (.areturn, 1, 0, 0, [])]
def KX7_readRowPart_77 : List RI := [(.aload_n 0, 1, 0, 0, []), (.iload_n 1, 1, 0, 1, []), (.invokevirtual 228, 3, 1, 149, [(0, 0), (0, 0), (0, 0), (0, 0), (0, 0), (0, 0), (0, 0), (0, 0)]), (.areturn, 1, 0, 0, [])]
def KX7_readRowPart : RB := [(0, KX7_readRowPart_0), (4, KX7_readRowPart_4), (13, KX7_readRowPart_13), (22, KX7_readRowPart_22), (28, KX7_readRowPart_28), (32, KX7_readRowPart_32), (36, KX7_readRowPart_36), (41, KX7_readRowPart_41), (50, KX7_readRowPart_50), (60, KX7_readRowPart_60), (77, KX7_readRowPart_77)]
def rX7_readRowPart : CmC := (yX7_readRowPart, cX7_readRowPart, 5, (some (.object "PlainJava$Statement")), 3, 8, false)
theorem hX7_readRowPart : mtC[146]? = some rX7_readRowPart := rfl
set_option maxRecDepth 100000 in
theorem okX7_readRowPart : cokMC rX7_readRowPart KX7_readRowPart = true := cokMC_of [] (fun _ h => absurd h List.not_mem_nil) (by decide +kernel) (by decide +kernel)
def KX7_readCase_0 : List RI := [(.aload_n 0, 1, 0, 0, []), (.aload_n 0, 1, 0, 0, []), (.invokevirtual 38, 3, 0, 125, [(0, 0), (0, 0), (0, 0), (0, 0), (0, 0), (0, 0), (0, 0), (0, 0)]), (.iload_n 1, 1, 0, 1, []), (.invokevirtual 161, 3, 2, 142, [(0, 0), (0, 0), (0, 0), (0, 0), (0, 0), (0, 0), (0, 0), (0, 0)]), (.astore_n 2, 1, 0, 2, []), (.aload_n 0, 1, 0, 0, []), (.invokevirtual 57, 3, 0, 128, [(0, 0), (0, 0), (0, 0), (0, 0), (0, 0), (0, 0), (0, 0), (0, 0)]), (.aload_n 2, 1, 0, 2, []), (.getfield 231, 3, 0, 270, []), (.bipush 62, 2, 0, 0, []), (.if_icmp .ne 12, 3, 0, 32, [])]
def KX7_readCase_23 : List RI := [(.aload_n 2, 1, 0, 2, []), (.aload_n 0, 1, 0, 0, []), (.iload_n 1, 1, 0, 1, []), (.invokevirtual 170, 3, 1, 164, [(0, 0), (0, 0), (0, 0), (0, 0), (0, 0), (0, 0), (0, 0), (0, 0)]), (.putfield 174, 3, 0, 279, [])]
def KX7_readCase_32 : List RI := [(.aload_n 0, 1, 0, 0, []), (.bipush 6, 2, 0, 0, []), (.invokevirtual 111, 3, 1, 129, [(0, 0), (0, 0), (0, 0), (0, 0), (0, 0), (0, 0), (0, 0), (0, 0)]), (.aload_n 2, 1, 0, 2, []), (.areturn, 1, 0, 0, [])]
def KX7_readCase : RB := [(0, KX7_readCase_0), (23, KX7_readCase_23), (32, KX7_readCase_32)]
def rX7_readCase : CmC := (yX7_readCase, cX7_readCase, 3, (some (.object "PlainJava$Statement")), 1, 8, false)
theorem hX7_readCase : mtC[147]? = some rX7_readCase := rfl
set_option maxRecDepth 100000 in
theorem okX7_readCase : cokMC rX7_readCase KX7_readCase = true := cokMC_of [] (fun _ h => absurd h List.not_mem_nil) (by decide +kernel) (by decide +kernel)
def KX7_readInner_0 : List RI := [(.aload_n 0, 1, 0, 0, []), (.getfield 96, 3, 0, 246, []), (.astore_n 3, 1, 0, 3, []), (.aload_n 0, 1, 0, 0, []), (.aload_n 1, 1, 0, 1, []), (.putfield 96, 3, 0, 246, []), (.aload_n 0, 1, 0, 0, []), (.iload_n 2, 1, 0, 2, []), (.iconst 1, 1, 0, 0, []), (.iadd, 1, 0, 0, []), (.invokevirtual 228, 3, 1, 149, [(0, 0), (0, 0), (0, 0), (0, 0), (0, 0), (0, 0), (0, 0), (0, 0)]), (.astore 4, 2, 0, 0, []), (.aload_n 0, 1, 0, 0, []), (.aload_n 3, 1, 0, 3, []), (.putfield 96, 3, 0, 246, []), (.aload 4, 2, 0, 0, []), (.areturn, 1, 0, 0, [])]
def KX7_readInner : RB := [(0, KX7_readInner_0)]
def rX7_readInner : CmC := (yX7_readInner, cX7_readInner, 5, (some (.object "PlainJava$Statement")), 2, 8, false)
theorem hX7_readInner : mtC[148]? = some rX7_readInner := rfl
set_option maxRecDepth 100000 in
theorem okX7_readInner : cokMC rX7_readInner KX7_readInner = true := cokMC_of [] (fun _ h => absurd h List.not_mem_nil) (by decide +kernel) (by decide +kernel)
def KX7_readStatement_0 : List RI := [(.aload_n 0, 1, 0, 0, []), (.iload_n 1, 1, 0, 1, []), (.invokevirtual 212, 3, 1, 131, [(0, 0), (0, 0), (0, 0), (0, 0), (0, 0), (0, 0), (0, 0), (0, 0)]), (.pop, 1, 0, 0, []), (.aload_n 0, 1, 0, 0, []), (.invokevirtual 38, 3, 0, 125, [(0, 0), (0, 0), (0, 0), (0, 0), (0, 0), (0, 0), (0, 0), (0, 0)]), (.lookupswitch 148 #[(2, 142), (4, 142), (56, 106), (58, 112), (59, 118), (60, 124), (61, 130), (64, 142), (65, 142), (66, 142), (67, 142), (68, 136)], 106, 0, 158, [(2, 152), (4, 152), (56, 116), (58, 122), (59, 128), (60, 134), (61, 140), (64, 152), (65, 152), (66, 152), (67, 152), (68, 146)])]
def KX7_readStatement_116 : List RI := [(.aload_n 0, 1, 0, 0, []), (.iload_n 1, 1, 0, 1, []), (.invokevirtual 234, 3, 1, 154, [(0, 0), (0, 0), (0, 0), (0, 0), (0, 0), (0, 0), (0, 0), (0, 0)]), (.areturn, 1, 0, 0, [])]
def KX7_readStatement_122 : List RI := [(.aload_n 0, 1, 0, 0, []), (.iload_n 1, 1, 0, 1, []), (.invokevirtual 237, 3, 1, 155, [(0, 0), (0, 0), (0, 0), (0, 0), (0, 0), (0, 0), (0, 0), (0, 0)]), (.areturn, 1, 0, 0, [])]
def KX7_readStatement_128 : List RI := [(.aload_n 0, 1, 0, 0, []), (.iload_n 1, 1, 0, 1, []), (.invokevirtual 240, 3, 1, 156, [(0, 0), (0, 0), (0, 0), (0, 0), (0, 0), (0, 0), (0, 0), (0, 0)]), (.areturn, 1, 0, 0, [])]
def KX7_readStatement_134 : List RI := [(.aload_n 0, 1, 0, 0, []), (.iload_n 1, 1, 0, 1, []), (.invokevirtual 243, 3, 1, 157, [(0, 0), (0, 0), (0, 0), (0, 0), (0, 0), (0, 0), (0, 0), (0, 0)]), (.areturn, 1, 0, 0, [])]
def KX7_readStatement_140 : List RI := [(.aload_n 0, 1, 0, 0, []), (.iload_n 1, 1, 0, 1, []), (.invokevirtual 246, 3, 1, 159, [(0, 0), (0, 0), (0, 0), (0, 0), (0, 0), (0, 0), (0, 0), (0, 0)]), (.areturn, 1, 0, 0, [])]
def KX7_readStatement_146 : List RI := [(.aload_n 0, 1, 0, 0, []), (.iload_n 1, 1, 0, 1, []), (.invokevirtual 249, 3, 1, 160, [(0, 0), (0, 0), (0, 0), (0, 0), (0, 0), (0, 0), (0, 0), (0, 0)]), (.areturn, 1, 0, 0, [])]
def KX7_readStatement_152 : List RI := [(.aload_n 0, 1, 0, 0, []), (.iload_n 1, 1, 0, 1, []), (.invokevirtual 252, 3, 1, 150, [(0, 0), (0, 0), (0, 0), (0, 0), (0, 0), (0, 0), (0, 0), (0, 0)]), (.areturn, 1, 0, 0, [])]
def KX7_readStatement_158 : List RI := [(.aload_n 0, 1, 0, 0, []), (.invokevirtual 38, 3, 0, 125, [(0, 0), (0, 0), (0, 0), (0, 0), (0, 0), (0, 0), (0, 0), (0, 0)]), (.bipush 80, 2, 0, 0, []), (.if_icmp .ne 20, 3, 0, 184, [])]
def KX7_readStatement_167 : List RI := [(.aload_n 0, 1, 0, 0, []), (.invokevirtual 255, 3, 0, 126, [(0, 0), (0, 0), (0, 0), (0, 0), (0, 0), (0, 0), (0, 0), (0, 0)]), (.bipush 6, 2, 0, 0, []), (.if_icmp .ne 11, 3, 0, 184, [])]
def KX7_readStatement_176 : List RI := [(.aload_n 0, 1, 0, 0, []), (.iload_n 1, 1, 0, 1, []), (.invokevirtual 258, 3, 1, 151, [(0, 0), (0, 0), (0, 0), (0, 0), (0, 0), (0, 0), (0, 0), (0, 0)]), (.goto 8, 3, 0, 189, [])]
def KX7_readStatement_184 : List RI := [(.aload_n 0, 1, 0, 0, []), (.iload_n 1, 1, 0, 1, []), (.invokevirtual 261, 3, 1, 152, [(0, 0), (0, 0), (0, 0), (0, 0), (0, 0), (0, 0), (0, 0), (0, 0)])]
def KX7_readStatement_189 : List RI := [(.areturn, 1, 0, 0, [])]
def KX7_readStatement : RB := [(0, KX7_readStatement_0), (116, KX7_readStatement_116), (122, KX7_readStatement_122), (128, KX7_readStatement_128), (134, KX7_readStatement_134), (140, KX7_readStatement_140), (146, KX7_readStatement_146), (152, KX7_readStatement_152), (158, KX7_readStatement_158), (167, KX7_readStatement_167), (176, KX7_readStatement_176), (184, KX7_readStatement_184), (189, KX7_readStatement_189)]
def rX7_readStatement : CmC := (yX7_readStatement, cX7_readStatement, 2, (some (.object "PlainJava$Statement")), 1, 8, false)
theorem hX7_readStatement : mtC[149]? = some rX7_readStatement := rfl
set_option maxRecDepth 100000 in
theorem swX7_readStatement_10 : decode cX7_readStatement 10 = .ok (.lookupswitch 148 #[(2, 142), (4, 142), (56, 106), (58, 112), (59, 118), (60, 124), (61, 130), (64, 142), (65, 142), (66, 142), (67, 142), (68, 136)], 106) := by decide +kernel
set_option maxRecDepth 100000 in
theorem okX7_readStatement : cokMC rX7_readStatement KX7_readStatement = true := cokMC_of [(10, .lookupswitch 148 #[(2, 142), (4, 142), (56, 106), (58, 112), (59, 118), (60, 124), (61, 130), (64, 142), (65, 142), (66, 142), (67, 142), (68, 136)], 106)] (fun q hq => by
  obtain rfl := List.mem_singleton.mp hq
  exact swX7_readStatement_10) (by decide +kernel) (by decide +kernel)
def KX7_readSimple_0 : List RI := [(.aload_n 0, 1, 0, 0, []), (.aload_n 0, 1, 0, 0, []), (.invokevirtual 38, 3, 0, 125, [(0, 0), (0, 0), (0, 0), (0, 0), (0, 0), (0, 0), (0, 0), (0, 0)]), (.iload_n 1, 1, 0, 1, []), (.invokevirtual 161, 3, 2, 142, [(0, 0), (0, 0), (0, 0), (0, 0), (0, 0), (0, 0), (0, 0), (0, 0)]), (.astore_n 2, 1, 0, 2, []), (.aload_n 2, 1, 0, 2, []), (.getfield 231, 3, 0, 270, []), (.iconst 2, 1, 0, 0, []), (.if_icmp .ne 11, 3, 0, 26, [])]
def KX7_readSimple_18 : List RI := [(.aload_n 0, 1, 0, 0, []), (.aload_n 2, 1, 0, 2, []), (.iload_n 1, 1, 0, 1, []), (.invokevirtual 203, 3, 2, 144, [(0, 0), (0, 0), (0, 0), (0, 0), (0, 0), (0, 0), (0, 0), (0, 0)]), (.aload_n 2, 1, 0, 2, []), (.areturn, 1, 0, 0, [])]
def KX7_readSimple_26 : List RI := [(.aload_n 0, 1, 0, 0, []), (.invokevirtual 57, 3, 0, 128, [(0, 0), (0, 0), (0, 0), (0, 0), (0, 0), (0, 0), (0, 0), (0, 0)]), (.aload_n 2, 1, 0, 2, []), (.getfield 231, 3, 0, 270, []), (.iconst 4, 1, 0, 0, []), (.if_icmp .ne 5, 3, 0, 40, [])]
def KX7_readSimple_38 : List RI := [(.aload_n 2, 1, 0, 2, []), (.areturn, 1, 0, 0, [])]
def KX7_readSimple_40 : List RI := [(.aload_n 2, 1, 0, 2, []), (.getfield 231, 3, 0, 270, []), (.bipush 67, 2, 0, 0, []), (.if_icmp .eq 20, 3, 0, 66, [])]
def KX7_readSimple_49 : List RI := [(.aload_n 2, 1, 0, 2, []), (.getfield 231, 3, 0, 270, []), (.bipush 66, 2, 0, 0, []), (.if_icmp .ne 20, 3, 0, 75, [])]
def KX7_readSimple_58 : List RI := [(.aload_n 0, 1, 0, 0, []), (.invokevirtual 38, 3, 0, 125, [(0, 0), (0, 0), (0, 0), (0, 0), (0, 0), (0, 0), (0, 0), (0, 0)]), (.iconst 4, 1, 0, 0, []), (.if_icmp .eq 12, 3, 0, 75, [])]
def KX7_readSimple_66 : List RI := [(.aload_n 2, 1, 0, 2, []), (.aload_n 0, 1, 0, 0, []), (.iload_n 1, 1, 0, 1, []), (.invokevirtual 170, 3, 1, 164, [(0, 0), (0, 0), (0, 0), (0, 0), (0, 0), (0, 0), (0, 0), (0, 0)]), (.putfield 174, 3, 0, 279, [])]
def KX7_readSimple_75 : List RI := [(.aload_n 2, 1, 0, 2, []), (.getfield 231, 3, 0, 270, []), (.bipush 66, 2, 0, 0, []), (.if_icmp .ne 22, 3, 0, 103, [])]
def KX7_readSimple_84 : List RI := [(.aload_n 2, 1, 0, 2, []), (.aload_n 0, 1, 0, 0, []), (.getfield 9, 3, 0, 240, []), (.getfield 64, 3, 0, 211, []), (.invokevirtual 68, 3, 0, 234, []), (.iconst 1, 1, 0, 0, []), (.isub, 1, 0, 0, []), (.putfield 165, 3, 0, 280, []), (.goto 48, 3, 0, 148, [])]
def KX7_readSimple_103 : List RI := [(.aload_n 2, 1, 0, 2, []), (.getfield 231, 3, 0, 270, []), (.bipush 67, 2, 0, 0, []), (.if_icmp .eq 39, 3, 0, 148, [])]
def KX7_readSimple_112 : List RI := [(.aload_n 0, 1, 0, 0, []), (.invokevirtual 38, 3, 0, 125, [(0, 0), (0, 0), (0, 0), (0, 0), (0, 0), (0, 0), (0, 0), (0, 0)]), (.bipush 80, 2, 0, 0, []), (.if_icmp .ne 30, 3, 0, 148, [])]
def KX7_readSimple_121 : List RI := [(.aload_n 2, 1, 0, 2, []), (.aload_n 0, 1, 0, 0, []), (.getfield 31, 3, 0, 242, []), (.putfield 165, 3, 0, 280, []), (.aload_n 0, 1, 0, 0, []), (.getfield 21, 3, 0, 241, []), (.getfield 89, 3, 0, 303, []), (.aload_n 0, 1, 0, 0, []), (.getfield 31, 3, 0, 242, []), (.sipush 200, 3, 0, 0, []), (.iastore, 1, 0, 0, []), (.aload_n 0, 1, 0, 0, []), (.invokevirtual 57, 3, 0, 128, [(0, 0), (0, 0), (0, 0), (0, 0), (0, 0), (0, 0), (0, 0), (0, 0)])]
def KX7_readSimple_148 : List RI := [(.aload_n 0, 1, 0, 0, []), (.iconst 4, 1, 0, 0, []), (.invokevirtual 111, 3, 1, 129, [(0, 0), (0, 0), (0, 0), (0, 0), (0, 0), (0, 0), (0, 0), (0, 0)]), (.aload_n 2, 1, 0, 2, []), (.areturn, 1, 0, 0, [])]
def KX7_readSimple : RB := [(0, KX7_readSimple_0), (18, KX7_readSimple_18), (26, KX7_readSimple_26), (38, KX7_readSimple_38), (40, KX7_readSimple_40), (49, KX7_readSimple_49), (58, KX7_readSimple_58), (66, KX7_readSimple_66), (75, KX7_readSimple_75), (84, KX7_readSimple_84), (103, KX7_readSimple_103), (112, KX7_readSimple_112), (121, KX7_readSimple_121), (148, KX7_readSimple_148)]
def rX7_readSimple : CmC := (yX7_readSimple, cX7_readSimple, 3, (some (.object "PlainJava$Statement")), 1, 8, false)
theorem hX7_readSimple : mtC[150]? = some rX7_readSimple := rfl
set_option maxRecDepth 100000 in
theorem okX7_readSimple : cokMC rX7_readSimple KX7_readSimple = true := cokMC_of [] (fun _ h => absurd h List.not_mem_nil) (by decide +kernel) (by decide +kernel)
def KX7_readLabel_0 : List RI := [(.aload_n 0, 1, 0, 0, []), (.bipush 6, 2, 0, 0, []), (.iload_n 1, 1, 0, 1, []), (.invokevirtual 161, 3, 2, 142, [(0, 0), (0, 0), (0, 0), (0, 0), (0, 0), (0, 0), (0, 0), (0, 0)]), (.astore_n 2, 1, 0, 2, []), (.aload_n 2, 1, 0, 2, []), (.aload_n 0, 1, 0, 0, []), (.getfield 31, 3, 0, 242, []), (.putfield 165, 3, 0, 280, []), (.aload_n 0, 1, 0, 0, []), (.getfield 21, 3, 0, 241, []), (.getfield 89, 3, 0, 303, []), (.aload_n 0, 1, 0, 0, []), (.getfield 31, 3, 0, 242, []), (.sipush 200, 3, 0, 0, []), (.iastore, 1, 0, 0, []), (.aload_n 0, 1, 0, 0, []), (.invokevirtual 57, 3, 0, 128, [(0, 0), (0, 0), (0, 0), (0, 0), (0, 0), (0, 0), (0, 0), (0, 0)]), (.aload_n 0, 1, 0, 0, []), (.bipush 6, 2, 0, 0, []), (.invokevirtual 111, 3, 1, 129, [(0, 0), (0, 0), (0, 0), (0, 0), (0, 0), (0, 0), (0, 0), (0, 0)]), (.aload_n 2, 1, 0, 2, []), (.aload_n 0, 1, 0, 0, []), (.aload_n 2, 1, 0, 2, []), (.iload_n 1, 1, 0, 1, []), (.invokevirtual 264, 3, 2, 148, [(0, 0), (0, 0), (0, 0), (0, 0), (0, 0), (0, 0), (0, 0), (0, 0)]), (.putfield 211, 3, 0, 276, []), (.aload_n 2, 1, 0, 2, []), (.areturn, 1, 0, 0, [])]
def KX7_readLabel : RB := [(0, KX7_readLabel_0)]
def rX7_readLabel : CmC := (yX7_readLabel, cX7_readLabel, 3, (some (.object "PlainJava$Statement")), 1, 8, false)
theorem hX7_readLabel : mtC[151]? = some rX7_readLabel := rfl
set_option maxRecDepth 100000 in
theorem okX7_readLabel : cokMC rX7_readLabel KX7_readLabel = true := cokMC_of [] (fun _ h => absurd h List.not_mem_nil) (by decide +kernel) (by decide +kernel)
def KX7_readExpStatement_0 : List RI := [(.aload_n 0, 1, 0, 0, []), (.bipush 90, 2, 0, 0, []), (.iload_n 1, 1, 0, 1, []), (.invokevirtual 161, 3, 2, 142, [(0, 0), (0, 0), (0, 0), (0, 0), (0, 0), (0, 0), (0, 0), (0, 0)]), (.astore_n 2, 1, 0, 2, []), (.aload_n 2, 1, 0, 2, []), (.aload_n 0, 1, 0, 0, []), (.iload_n 1, 1, 0, 1, []), (.invokevirtual 170, 3, 1, 164, [(0, 0), (0, 0), (0, 0), (0, 0), (0, 0), (0, 0), (0, 0), (0, 0)]), (.putfield 174, 3, 0, 279, []), (.aload_n 0, 1, 0, 0, []), (.iconst 4, 1, 0, 0, []), (.invokevirtual 111, 3, 1, 129, [(0, 0), (0, 0), (0, 0), (0, 0), (0, 0), (0, 0), (0, 0), (0, 0)]), (.aload_n 2, 1, 0, 2, []), (.areturn, 1, 0, 0, [])]
def KX7_readExpStatement : RB := [(0, KX7_readExpStatement_0)]
def rX7_readExpStatement : CmC := (yX7_readExpStatement, cX7_readExpStatement, 3, (some (.object "PlainJava$Statement")), 1, 8, false)
theorem hX7_readExpStatement : mtC[152]? = some rX7_readExpStatement := rfl
set_option maxRecDepth 100000 in
theorem okX7_readExpStatement : cokMC rX7_readExpStatement KX7_readExpStatement = true := cokMC_of [] (fun _ h => absurd h List.not_mem_nil) (by decide +kernel) (by decide +kernel)
def KX7_readCondition_0 : List RI := [(.aload_n 0, 1, 0, 0, []), (.iconst 0, 1, 0, 0, []), (.invokevirtual 111, 3, 1, 129, [(0, 0), (0, 0), (0, 0), (0, 0), (0, 0), (0, 0), (0, 0), (0, 0)]), (.aload_n 1, 1, 0, 1, []), (.aload_n 0, 1, 0, 0, []), (.iload_n 2, 1, 0, 2, []), (.invokevirtual 170, 3, 1, 164, [(0, 0), (0, 0), (0, 0), (0, 0), (0, 0), (0, 0), (0, 0), (0, 0)]), (.putfield 174, 3, 0, 279, []), (.aload_n 0, 1, 0, 0, []), (.iconst 1, 1, 0, 0, []), (.invokevirtual 111, 3, 1, 129, [(0, 0), (0, 0), (0, 0), (0, 0), (0, 0), (0, 0), (0, 0), (0, 0)]), (.return_, 1, 0, 0, [])]
def KX7_readCondition : RB := [(0, KX7_readCondition_0)]
def rX7_readCondition : CmC := (yX7_readCondition, cX7_readCondition, 3, none, 2, 8, false)
theorem hX7_readCondition : mtC[153]? = some rX7_readCondition := rfl
set_option maxRecDepth 100000 in
theorem okX7_readCondition : cokMC rX7_readCondition KX7_readCondition = true := cokMC_of [] (fun _ h => absurd h List.not_mem_nil) (by decide +kernel) (by decide +kernel)
def KX7_readIf_0 : List RI := [(.aload_n 0, 1, 0, 0, []), (.bipush 56, 2, 0, 0, []), (.iload_n 1, 1, 0, 1, []), (.invokevirtual 161, 3, 2, 142, [(0, 0), (0, 0), (0, 0), (0, 0), (0, 0), (0, 0), (0, 0), (0, 0)]), (.astore_n 2, 1, 0, 2, []), (.aload_n 0, 1, 0, 0, []), (.invokevirtual 57, 3, 0, 128, [(0, 0), (0, 0), (0, 0), (0, 0), (0, 0), (0, 0), (0, 0), (0, 0)]), (.aload_n 0, 1, 0, 0, []), (.aload_n 2, 1, 0, 2, []), (.iload_n 1, 1, 0, 1, []), (.invokevirtual 268, 3, 2, 153, [(0, 0), (0, 0), (0, 0), (0, 0), (0, 0), (0, 0), (0, 0), (0, 0)]), (.aload_n 2, 1, 0, 2, []), (.aload_n 0, 1, 0, 0, []), (.aload_n 2, 1, 0, 2, []), (.iload_n 1, 1, 0, 1, []), (.invokevirtual 264, 3, 2, 148, [(0, 0), (0, 0), (0, 0), (0, 0), (0, 0), (0, 0), (0, 0), (0, 0)]), (.putfield 211, 3, 0, 276, []), (.aload_n 0, 1, 0, 0, []), (.bipush 57, 2, 0, 0, []), (.invokevirtual 114, 3, 1, 130, [(0, 0), (0, 0), (0, 0), (0, 0), (0, 0), (0, 0), (0, 0), (0, 0)]), (.ifCond .eq 13, 3, 0, 47, [])]
def KX7_readIf_37 : List RI := [(.aload_n 2, 1, 0, 2, []), (.aload_n 0, 1, 0, 0, []), (.aload_n 2, 1, 0, 2, []), (.iload_n 1, 1, 0, 1, []), (.invokevirtual 264, 3, 2, 148, [(0, 0), (0, 0), (0, 0), (0, 0), (0, 0), (0, 0), (0, 0), (0, 0)]), (.putfield 271, 3, 0, 277, [])]
def KX7_readIf_47 : List RI := [(.aload_n 2, 1, 0, 2, []), (.areturn, 1, 0, 0, [])]
def KX7_readIf : RB := [(0, KX7_readIf_0), (37, KX7_readIf_37), (47, KX7_readIf_47)]
def rX7_readIf : CmC := (yX7_readIf, cX7_readIf, 3, (some (.object "PlainJava$Statement")), 1, 8, false)
theorem hX7_readIf : mtC[154]? = some rX7_readIf := rfl
set_option maxRecDepth 100000 in
theorem okX7_readIf : cokMC rX7_readIf KX7_readIf = true := cokMC_of [] (fun _ h => absurd h List.not_mem_nil) (by decide +kernel) (by decide +kernel)
def KX7_readWhile_0 : List RI := [(.aload_n 0, 1, 0, 0, []), (.bipush 58, 2, 0, 0, []), (.iload_n 1, 1, 0, 1, []), (.invokevirtual 161, 3, 2, 142, [(0, 0), (0, 0), (0, 0), (0, 0), (0, 0), (0, 0), (0, 0), (0, 0)]), (.astore_n 2, 1, 0, 2, []), (.aload_n 0, 1, 0, 0, []), (.invokevirtual 57, 3, 0, 128, [(0, 0), (0, 0), (0, 0), (0, 0), (0, 0), (0, 0), (0, 0), (0, 0)]), (.aload_n 0, 1, 0, 0, []), (.aload_n 2, 1, 0, 2, []), (.iload_n 1, 1, 0, 1, []), (.invokevirtual 268, 3, 2, 153, [(0, 0), (0, 0), (0, 0), (0, 0), (0, 0), (0, 0), (0, 0), (0, 0)]), (.aload_n 2, 1, 0, 2, []), (.aload_n 0, 1, 0, 0, []), (.aload_n 2, 1, 0, 2, []), (.iload_n 1, 1, 0, 1, []), (.invokevirtual 264, 3, 2, 148, [(0, 0), (0, 0), (0, 0), (0, 0), (0, 0), (0, 0), (0, 0), (0, 0)]), (.putfield 211, 3, 0, 276, []), (.aload_n 2, 1, 0, 2, []), (.areturn, 1, 0, 0, [])]
def KX7_readWhile : RB := [(0, KX7_readWhile_0)]
def rX7_readWhile : CmC := (yX7_readWhile, cX7_readWhile, 3, (some (.object "PlainJava$Statement")), 1, 8, false)
theorem hX7_readWhile : mtC[155]? = some rX7_readWhile := rfl
set_option maxRecDepth 100000 in
theorem okX7_readWhile : cokMC rX7_readWhile KX7_readWhile = true := cokMC_of [] (fun _ h => absurd h List.not_mem_nil) (by decide +kernel) (by decide +kernel)
def KX7_readDo_0 : List RI := [(.aload_n 0, 1, 0, 0, []), (.bipush 59, 2, 0, 0, []), (.iload_n 1, 1, 0, 1, []), (.invokevirtual 161, 3, 2, 142, [(0, 0), (0, 0), (0, 0), (0, 0), (0, 0), (0, 0), (0, 0), (0, 0)]), (.astore_n 2, 1, 0, 2, []), (.aload_n 0, 1, 0, 0, []), (.invokevirtual 57, 3, 0, 128, [(0, 0), (0, 0), (0, 0), (0, 0), (0, 0), (0, 0), (0, 0), (0, 0)]), (.aload_n 2, 1, 0, 2, []), (.aload_n 0, 1, 0, 0, []), (.aload_n 2, 1, 0, 2, []), (.iload_n 1, 1, 0, 1, []), (.invokevirtual 264, 3, 2, 148, [(0, 0), (0, 0), (0, 0), (0, 0), (0, 0), (0, 0), (0, 0), (0, 0)]), (.putfield 211, 3, 0, 276, []), (.aload_n 0, 1, 0, 0, []), (.bipush 58, 2, 0, 0, []), (.invokevirtual 111, 3, 1, 129, [(0, 0), (0, 0), (0, 0), (0, 0), (0, 0), (0, 0), (0, 0), (0, 0)]), (.aload_n 0, 1, 0, 0, []), (.aload_n 2, 1, 0, 2, []), (.iload_n 1, 1, 0, 1, []), (.invokevirtual 268, 3, 2, 153, [(0, 0), (0, 0), (0, 0), (0, 0), (0, 0), (0, 0), (0, 0), (0, 0)]), (.aload_n 0, 1, 0, 0, []), (.iconst 4, 1, 0, 0, []), (.invokevirtual 111, 3, 1, 129, [(0, 0), (0, 0), (0, 0), (0, 0), (0, 0), (0, 0), (0, 0), (0, 0)]), (.aload_n 2, 1, 0, 2, []), (.areturn, 1, 0, 0, [])]
def KX7_readDo : RB := [(0, KX7_readDo_0)]
def rX7_readDo : CmC := (yX7_readDo, cX7_readDo, 3, (some (.object "PlainJava$Statement")), 1, 8, false)
theorem hX7_readDo : mtC[156]? = some rX7_readDo := rfl
set_option maxRecDepth 100000 in
theorem okX7_readDo : cokMC rX7_readDo KX7_readDo = true := cokMC_of [] (fun _ h => absurd h List.not_mem_nil) (by decide +kernel) (by decide +kernel)
def KX7_readFor_0 : List RI := [(.aload_n 0, 1, 0, 0, []), (.bipush 60, 2, 0, 0, []), (.iload_n 1, 1, 0, 1, []), (.invokevirtual 161, 3, 2, 142, [(0, 0), (0, 0), (0, 0), (0, 0), (0, 0), (0, 0), (0, 0), (0, 0)]), (.astore_n 2, 1, 0, 2, []), (.aload_n 0, 1, 0, 0, []), (.getfield 96, 3, 0, 246, []), (.astore_n 3, 1, 0, 3, []), (.aload_n 0, 1, 0, 0, []), (.getfield 92, 3, 0, 245, []), (.lstore 4, 2, 0, 0, []), (.aload_n 0, 1, 0, 0, []), (.invokevirtual 57, 3, 0, 128, [(0, 0), (0, 0), (0, 0), (0, 0), (0, 0), (0, 0), (0, 0), (0, 0)]), (.aload_n 0, 1, 0, 0, []), (.iconst 0, 1, 0, 0, []), (.invokevirtual 111, 3, 1, 129, [(0, 0), (0, 0), (0, 0), (0, 0), (0, 0), (0, 0), (0, 0), (0, 0)]), (.aload_n 0, 1, 0, 0, []), (.aload_n 2, 1, 0, 2, []), (.putfield 96, 3, 0, 246, []), (.aload_n 0, 1, 0, 0, []), (.invokevirtual 38, 3, 0, 125, [(0, 0), (0, 0), (0, 0), (0, 0), (0, 0), (0, 0), (0, 0), (0, 0)]), (.bipush 71, 2, 0, 0, []), (.if_icmp .eq 13, 3, 0, 52, [])]
def KX7_readFor_42 : List RI := [(.aload_n 0, 1, 0, 0, []), (.invokevirtual 38, 3, 0, 125, [(0, 0), (0, 0), (0, 0), (0, 0), (0, 0), (0, 0), (0, 0), (0, 0)]), (.invokestatic 60, 3, 1, 132, []), (.ifCond .eq 17, 3, 0, 66, [])]
def KX7_readFor_52 : List RI := [(.aload_n 2, 1, 0, 2, []), (.aload_n 0, 1, 0, 0, []), (.bipush 93, 2, 0, 0, []), (.iload_n 1, 1, 0, 1, []), (.invokevirtual 225, 3, 2, 141, [(0, 0), (0, 0), (0, 0), (0, 0), (0, 0), (0, 0), (0, 0), (0, 0)]), (.putfield 271, 3, 0, 277, []), (.goto 20, 3, 0, 83, [])]
def KX7_readFor_66 : List RI := [(.aload_n 0, 1, 0, 0, []), (.invokevirtual 38, 3, 0, 125, [(0, 0), (0, 0), (0, 0), (0, 0), (0, 0), (0, 0), (0, 0), (0, 0)]), (.iconst 4, 1, 0, 0, []), (.if_icmp .eq 12, 3, 0, 83, [])]
def KX7_readFor_74 : List RI := [(.aload_n 2, 1, 0, 2, []), (.aload_n 0, 1, 0, 0, []), (.iload_n 1, 1, 0, 1, []), (.invokevirtual 274, 3, 1, 158, [(0, 0), (0, 0), (0, 0), (0, 0), (0, 0), (0, 0), (0, 0), (0, 0)]), (.putfield 271, 3, 0, 277, [])]
def KX7_readFor_83 : List RI := [(.aload_n 0, 1, 0, 0, []), (.iconst 4, 1, 0, 0, []), (.invokevirtual 111, 3, 1, 129, [(0, 0), (0, 0), (0, 0), (0, 0), (0, 0), (0, 0), (0, 0), (0, 0)]), (.aload_n 0, 1, 0, 0, []), (.invokevirtual 38, 3, 0, 125, [(0, 0), (0, 0), (0, 0), (0, 0), (0, 0), (0, 0), (0, 0), (0, 0)]), (.iconst 4, 1, 0, 0, []), (.if_icmp .eq 12, 3, 0, 105, [])]
def KX7_readFor_96 : List RI := [(.aload_n 2, 1, 0, 2, []), (.aload_n 0, 1, 0, 0, []), (.iload_n 1, 1, 0, 1, []), (.invokevirtual 170, 3, 1, 164, [(0, 0), (0, 0), (0, 0), (0, 0), (0, 0), (0, 0), (0, 0), (0, 0)]), (.putfield 174, 3, 0, 279, [])]
def KX7_readFor_105 : List RI := [(.aload_n 0, 1, 0, 0, []), (.iconst 4, 1, 0, 0, []), (.invokevirtual 111, 3, 1, 129, [(0, 0), (0, 0), (0, 0), (0, 0), (0, 0), (0, 0), (0, 0), (0, 0)]), (.aload_n 0, 1, 0, 0, []), (.invokevirtual 38, 3, 0, 125, [(0, 0), (0, 0), (0, 0), (0, 0), (0, 0), (0, 0), (0, 0), (0, 0)]), (.iconst 1, 1, 0, 0, []), (.if_icmp .eq 12, 3, 0, 127, [])]
def KX7_readFor_118 : List RI := [(.aload_n 2, 1, 0, 2, []), (.aload_n 0, 1, 0, 0, []), (.iload_n 1, 1, 0, 1, []), (.invokevirtual 274, 3, 1, 158, [(0, 0), (0, 0), (0, 0), (0, 0), (0, 0), (0, 0), (0, 0), (0, 0)]), (.putfield 277, 3, 0, 278, [])]
def KX7_readFor_127 : List RI := [(.aload_n 0, 1, 0, 0, []), (.iconst 1, 1, 0, 0, []), (.invokevirtual 111, 3, 1, 129, [(0, 0), (0, 0), (0, 0), (0, 0), (0, 0), (0, 0), (0, 0), (0, 0)]), (.aload_n 2, 1, 0, 2, []), (.aload_n 0, 1, 0, 0, []), (.aload_n 2, 1, 0, 2, []), (.iload_n 1, 1, 0, 1, []), (.invokevirtual 264, 3, 2, 148, [(0, 0), (0, 0), (0, 0), (0, 0), (0, 0), (0, 0), (0, 0), (0, 0)]), (.putfield 211, 3, 0, 276, []), (.aload_n 0, 1, 0, 0, []), (.lload 4, 2, 0, 0, []), (.putfield 92, 3, 0, 245, []), (.aload_n 0, 1, 0, 0, []), (.aload_n 3, 1, 0, 3, []), (.putfield 96, 3, 0, 246, []), (.aload_n 2, 1, 0, 2, []), (.areturn, 1, 0, 0, [])]
def KX7_readFor : RB := [(0, KX7_readFor_0), (42, KX7_readFor_42), (52, KX7_readFor_52), (66, KX7_readFor_66), (74, KX7_readFor_74), (83, KX7_readFor_83), (96, KX7_readFor_96), (105, KX7_readFor_105), (118, KX7_readFor_118), (127, KX7_readFor_127)]
def rX7_readFor : CmC := (yX7_readFor, cX7_readFor, 6, (some (.object "PlainJava$Statement")), 1, 8, false)
theorem hX7_readFor : mtC[157]? = some rX7_readFor := rfl
set_option maxRecDepth 100000 in
theorem okX7_readFor : cokMC rX7_readFor KX7_readFor = true := cokMC_of [] (fun _ h => absurd h List.not_mem_nil) (by decide +kernel) (by decide +kernel)
def KX7_readForExps_0 : List RI := [(.aload_n 0, 1, 0, 0, []), (.bipush 94, 2, 0, 0, []), (.iload_n 1, 1, 0, 1, []), (.invokevirtual 161, 3, 2, 142, [(0, 0), (0, 0), (0, 0), (0, 0), (0, 0), (0, 0), (0, 0), (0, 0)]), (.astore_n 2, 1, 0, 2, []), (.aload_n 2, 1, 0, 2, []), (.aload_n 0, 1, 0, 0, []), (.iload_n 1, 1, 0, 1, []), (.invokevirtual 170, 3, 1, 164, [(0, 0), (0, 0), (0, 0), (0, 0), (0, 0), (0, 0), (0, 0), (0, 0)]), (.putfield 174, 3, 0, 279, []), (.aload_n 2, 1, 0, 2, []), (.astore_n 3, 1, 0, 3, []), (.iconst 0, 1, 0, 0, []), (.istore 4, 2, 0, 0, [])]
def KX7_readForExps_22 : List RI := [(.iload 4, 2, 0, 0, []), (.sipush 500, 3, 0, 0, []), (.if_icmp .gt 42, 3, 0, 69, [])]
def KX7_readForExps_30 : List RI := [(.aload_n 0, 1, 0, 0, []), (.iconst 5, 1, 0, 0, []), (.invokevirtual 114, 3, 1, 130, [(0, 0), (0, 0), (0, 0), (0, 0), (0, 0), (0, 0), (0, 0), (0, 0)]), (.ifCond .eq 34, 3, 0, 69, [])]
def KX7_readForExps_38 : List RI := [(.aload_n 3, 1, 0, 3, []), (.aload_n 0, 1, 0, 0, []), (.bipush 94, 2, 0, 0, []), (.iload_n 1, 1, 0, 1, []), (.invokevirtual 161, 3, 2, 142, [(0, 0), (0, 0), (0, 0), (0, 0), (0, 0), (0, 0), (0, 0), (0, 0)]), (.putfield 219, 3, 0, 275, []), (.aload_n 3, 1, 0, 3, []), (.getfield 219, 3, 0, 275, []), (.astore_n 3, 1, 0, 3, []), (.aload_n 3, 1, 0, 3, []), (.aload_n 0, 1, 0, 0, []), (.iload_n 1, 1, 0, 1, []), (.invokevirtual 170, 3, 1, 164, [(0, 0), (0, 0), (0, 0), (0, 0), (0, 0), (0, 0), (0, 0), (0, 0)]), (.putfield 174, 3, 0, 279, []), (.iinc 4 1, 3, 0, 0, []), (.goto (-44), 3, 0, 22, [])]
def KX7_readForExps_69 : List RI := [(.aload_n 2, 1, 0, 2, []), (.areturn, 1, 0, 0, [])]
def KX7_readForExps : RB := [(0, KX7_readForExps_0), (22, KX7_readForExps_22), (30, KX7_readForExps_30), (38, KX7_readForExps_38), (69, KX7_readForExps_69)]
def rX7_readForExps : CmC := (yX7_readForExps, cX7_readForExps, 5, (some (.object "PlainJava$Statement")), 1, 8, false)
theorem hX7_readForExps : mtC[158]? = some rX7_readForExps := rfl
set_option maxRecDepth 100000 in
theorem okX7_readForExps : cokMC rX7_readForExps KX7_readForExps = true := cokMC_of [] (fun _ h => absurd h List.not_mem_nil) (by decide +kernel) (by decide +kernel)
def KX7_readSwitch_0 : List RI := [(.aload_n 0, 1, 0, 0, []), (.bipush 61, 2, 0, 0, []), (.iload_n 1, 1, 0, 1, []), (.invokevirtual 161, 3, 2, 142, [(0, 0), (0, 0), (0, 0), (0, 0), (0, 0), (0, 0), (0, 0), (0, 0)]), (.astore_n 2, 1, 0, 2, []), (.aload_n 0, 1, 0, 0, []), (.getfield 96, 3, 0, 246, []), (.astore_n 3, 1, 0, 3, []), (.aload_n 0, 1, 0, 0, []), (.getfield 92, 3, 0, 245, []), (.lstore 4, 2, 0, 0, []), (.aload_n 0, 1, 0, 0, []), (.invokevirtual 57, 3, 0, 128, [(0, 0), (0, 0), (0, 0), (0, 0), (0, 0), (0, 0), (0, 0), (0, 0)]), (.aload_n 0, 1, 0, 0, []), (.aload_n 2, 1, 0, 2, []), (.iload_n 1, 1, 0, 1, []), (.invokevirtual 268, 3, 2, 153, [(0, 0), (0, 0), (0, 0), (0, 0), (0, 0), (0, 0), (0, 0), (0, 0)]), (.aload_n 0, 1, 0, 0, []), (.aload_n 2, 1, 0, 2, []), (.putfield 96, 3, 0, 246, []), (.aload_n 0, 1, 0, 0, []), (.iconst 2, 1, 0, 0, []), (.invokevirtual 111, 3, 1, 129, [(0, 0), (0, 0), (0, 0), (0, 0), (0, 0), (0, 0), (0, 0), (0, 0)]), (.aload_n 2, 1, 0, 2, []), (.aload_n 0, 1, 0, 0, []), (.iload_n 1, 1, 0, 1, []), (.iconst 1, 1, 0, 0, []), (.iadd, 1, 0, 0, []), (.iconst 1, 1, 0, 0, []), (.invokevirtual 207, 3, 2, 145, [(0, 0), (0, 0), (0, 0), (0, 0), (0, 0), (0, 0), (0, 0), (0, 0)]), (.putfield 211, 3, 0, 276, []), (.aload_n 0, 1, 0, 0, []), (.iconst 3, 1, 0, 0, []), (.invokevirtual 111, 3, 1, 129, [(0, 0), (0, 0), (0, 0), (0, 0), (0, 0), (0, 0), (0, 0), (0, 0)]), (.aload_n 0, 1, 0, 0, []), (.lload 4, 2, 0, 0, []), (.putfield 92, 3, 0, 245, []), (.aload_n 0, 1, 0, 0, []), (.aload_n 3, 1, 0, 3, []), (.putfield 96, 3, 0, 246, []), (.aload_n 2, 1, 0, 2, []), (.areturn, 1, 0, 0, [])]
def KX7_readSwitch : RB := [(0, KX7_readSwitch_0)]
def rX7_readSwitch : CmC := (yX7_readSwitch, cX7_readSwitch, 6, (some (.object "PlainJava$Statement")), 1, 8, false)
theorem hX7_readSwitch : mtC[159]? = some rX7_readSwitch := rfl
set_option maxRecDepth 100000 in
theorem okX7_readSwitch : cokMC rX7_readSwitch KX7_readSwitch = true := cokMC_of [] (fun _ h => absurd h List.not_mem_nil) (by decide +kernel) (by decide +kernel)

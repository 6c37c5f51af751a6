def KX11_init_0 : List RI := [(.aload_n 0, 1, 0, 0, []), (.invokespecial 1, 3, 0, 9999, []), (.aload_n 0, 1, 0, 0, []), (.sipush 2500, 3, 0, 0, []), (.newarray .byte, 2, 0, 101, []), (.putfield 9, 3, 0, 360, []), (.aload_n 0, 1, 0, 0, []), (.bipush 40, 2, 0, 0, []), (.newarray .int, 2, 0, 100, []), (.putfield 13, 3, 0, 361, []), (.aload_n 0, 1, 0, 0, []), (.bipush 6, 2, 0, 0, []), (.newarray .long, 2, 0, 102, []), (.putfield 17, 3, 0, 362, []), (.aload_n 0, 1, 0, 0, []), (.new 21, 3, 0, 7, []), (.dup, 1, 0, 0, []), (.invokespecial 23, 3, 0, 116, []), (.putfield 24, 3, 0, 363, []), (.aload_n 0, 1, 0, 0, []), (.new 21, 3, 0, 7, []), (.dup, 1, 0, 0, []), (.invokespecial 23, 3, 0, 116, []), (.putfield 28, 3, 0, 364, []), (.aload_n 0, 1, 0, 0, []), (.new 31, 3, 0, 8, []), (.dup, 1, 0, 0, []), (.aload_n 0, 1, 0, 0, []), (.getfield 28, 3, 0, 364, []), (.invokespecial 33, 3, 1, 122, []), (.putfield 36, 3, 0, 365, []), (.aload_n 0, 1, 0, 0, []), (.new 40, 3, 0, 4, []), (.dup, 1, 0, 0, []), (.aload_n 0, 1, 0, 0, []), (.getfield 24, 3, 0, 363, []), (.invokespecial 42, 3, 1, 48, []), (.putfield 43, 3, 0, 366, []), (.aload_n 0, 1, 0, 0, []), (.new 47, 3, 0, 1, []), (.dup, 1, 0, 0, []), (.aload_n 0, 1, 0, 0, []), (.getfield 24, 3, 0, 363, []), (.invokespecial 49, 3, 1, 0, []), (.putfield 50, 3, 0, 367, []), (.aload_n 0, 1, 0, 0, []), (.new 54, 3, 0, 5, []), (.dup, 1, 0, 0, []), (.aload_n 0, 1, 0, 0, []), (.getfield 50, 3, 0, 367, []), (.invokespecial 56, 3, 1, 87, []), (.putfield 59, 3, 0, 368, []), (.aload_n 0, 1, 0, 0, []), (.bipush (-2), 2, 0, 0, []), (.putfield 63, 3, 0, 371, []), (.return_, 1, 0, 0, [])]
def KX11_init : RB := [(0, KX11_init_0)]
def rX11_init : CmC := (yX11_init, cX11_init, 1, none, 0, 12, false)
theorem hX11_init : mtC[200]? = some rX11_init := rfl
set_option maxRecDepth 100000 in
theorem swX11_init_8 : decode cX11_init 8 = .ok (.newarray .byte, 2) := by decide +kernel
set_option maxRecDepth 100000 in
theorem swX11_init_16 : decode cX11_init 16 = .ok (.newarray .int, 2) := by decide +kernel
set_option maxRecDepth 100000 in
theorem swX11_init_24 : decode cX11_init 24 = .ok (.newarray .long, 2) := by decide +kernel
set_option maxRecDepth 100000 in
theorem okX11_init : cokMC rX11_init KX11_init = true := cokMC_of [(8, .newarray .byte, 2), (16, .newarray .int, 2), (24, .newarray .long, 2)] (fun q hq => by
  simp only [List.mem_cons, List.not_mem_nil, or_false] at hq
  rcases hq with rfl | rfl | rfl
  · exact swX11_init_8
  · exact swX11_init_16
  · exact swX11_init_24) (by decide +kernel) (by decide +kernel)
def KX11_feed_0 : List RI := [(.aload_n 0, 1, 0, 0, []), (.getfield 67, 3, 0, 369, []), (.bipush 20, 2, 0, 0, []), (.iadd, 1, 0, 0, []), (.sipush 2500, 3, 0, 0, []), (.if_icmp .le 6, 3, 0, 16, [])]
def KX11_feed_13 : List RI := [(.bipush (-3), 2, 0, 0, []), (.ireturn, 1, 1, 0, [])]
def KX11_feed_16 : List RI := [(.aload_n 0, 1, 0, 0, []), (.iload_n 1, 1, 0, 1, []), (.invokevirtual 70, 3, 1, 202, [(0, 0), (0, 0), (0, 0), (0, 0), (0, 0), (0, 0), (0, 0), (0, 0), (0, 0), (0, 0), (0, 0), (0, 0)]), (.aload_n 0, 1, 0, 0, []), (.iload_n 2, 1, 0, 2, []), (.invokevirtual 70, 3, 1, 202, [(0, 0), (0, 0), (0, 0), (0, 0), (0, 0), (0, 0), (0, 0), (0, 0), (0, 0), (0, 0), (0, 0), (0, 0)]), (.aload_n 0, 1, 0, 0, []), (.iload_n 3, 1, 0, 3, []), (.invokevirtual 70, 3, 1, 202, [(0, 0), (0, 0), (0, 0), (0, 0), (0, 0), (0, 0), (0, 0), (0, 0), (0, 0), (0, 0), (0, 0), (0, 0)]), (.aload_n 0, 1, 0, 0, []), (.iload 4, 2, 0, 0, []), (.invokevirtual 70, 3, 1, 202, [(0, 0), (0, 0), (0, 0), (0, 0), (0, 0), (0, 0), (0, 0), (0, 0), (0, 0), (0, 0), (0, 0), (0, 0)]), (.aload_n 0, 1, 0, 0, []), (.iload 5, 2, 0, 0, []), (.invokevirtual 70, 3, 1, 202, [(0, 0), (0, 0), (0, 0), (0, 0), (0, 0), (0, 0), (0, 0), (0, 0), (0, 0), (0, 0), (0, 0), (0, 0)]), (.aload_n 0, 1, 0, 0, []), (.getfield 67, 3, 0, 369, []), (.ireturn, 1, 1, 0, [])]
def KX11_feed : RB := [(0, KX11_feed_0), (13, KX11_feed_13), (16, KX11_feed_16)]
def rX11_feed : CmC := (yX11_feed, cX11_feed, 6, (some .int), 5, 12, false)
theorem hX11_feed : mtC[201]? = some rX11_feed := rfl
set_option maxRecDepth 100000 in
theorem okX11_feed : cokMC rX11_feed KX11_feed = true := cokMC_of [] (fun _ h => absurd h List.not_mem_nil) (by decide +kernel) (by decide +kernel)
def KX11_append_0 : List RI := [(.bipush 24, 2, 0, 0, []), (.istore_n 2, 1, 0, 2, [])]
def KX11_append_3 : List RI := [(.iload_n 2, 1, 0, 2, []), (.ifCond .lt 42, 3, 0, 46, [])]
def KX11_append_7 : List RI := [(.aload_n 0, 1, 0, 0, []), (.getfield 67, 3, 0, 369, []), (.sipush 2500, 3, 0, 0, []), (.if_icmp .ge 32, 3, 0, 46, [])]
def KX11_append_17 : List RI := [(.aload_n 0, 1, 0, 0, []), (.getfield 9, 3, 0, 360, []), (.aload_n 0, 1, 0, 0, []), (.getfield 67, 3, 0, 369, []), (.iload_n 1, 1, 0, 1, []), (.iload_n 2, 1, 0, 2, []), (.ishr, 1, 0, 0, []), (.i2b, 1, 0, 0, []), (.bastore, 1, 0, 0, []), (.aload_n 0, 1, 0, 0, []), (.dup, 1, 0, 0, []), (.getfield 67, 3, 0, 369, []), (.iconst 1, 1, 0, 0, []), (.iadd, 1, 0, 0, []), (.putfield 67, 3, 0, 369, []), (.iinc 2 (-8), 3, 0, 0, []), (.goto (-40), 3, 0, 3, [])]
def KX11_append_46 : List RI := [(.return_, 1, 0, 0, [])]
def KX11_append : RB := [(0, KX11_append_0), (3, KX11_append_3), (7, KX11_append_7), (17, KX11_append_17), (46, KX11_append_46)]
def rX11_append : CmC := (yX11_append, cX11_append, 3, none, 1, 12, false)
theorem hX11_append : mtC[202]? = some rX11_append := rfl
set_option maxRecDepth 100000 in
theorem okX11_append : cokMC rX11_append KX11_append = true := cokMC_of [] (fun _ h => absurd h List.not_mem_nil) (by decide +kernel) (by decide +kernel)
def KX11_cut_0 : List RI := [(.iload_n 1, 1, 0, 1, []), (.ifCond .lt 11, 3, 0, 12, [])]
def KX11_cut_4 : List RI := [(.iload_n 1, 1, 0, 1, []), (.aload_n 0, 1, 0, 0, []), (.getfield 67, 3, 0, 369, []), (.if_icmp .le 5, 3, 0, 14, [])]
def KX11_cut_12 : List RI := [(.iconst (-1), 1, 0, 0, []), (.ireturn, 1, 1, 0, [])]
def KX11_cut_14 : List RI := [(.aload_n 0, 1, 0, 0, []), (.dup, 1, 0, 0, []), (.getfield 67, 3, 0, 369, []), (.iload_n 1, 1, 0, 1, []), (.isub, 1, 0, 0, []), (.putfield 67, 3, 0, 369, []), (.aload_n 0, 1, 0, 0, []), (.getfield 67, 3, 0, 369, []), (.ireturn, 1, 1, 0, [])]
def KX11_cut : RB := [(0, KX11_cut_0), (4, KX11_cut_4), (12, KX11_cut_12), (14, KX11_cut_14)]
def rX11_cut : CmC := (yX11_cut, cX11_cut, 2, (some .int), 1, 12, false)
theorem hX11_cut : mtC[203]? = some rX11_cut := rfl
set_option maxRecDepth 100000 in
theorem okX11_cut : cokMC rX11_cut KX11_cut = true := cokMC_of [] (fun _ h => absurd h List.not_mem_nil) (by decide +kernel) (by decide +kernel)
def KX11_read_0 : List RI := [(.aload_n 0, 1, 0, 0, []), (.getfield 36, 3, 0, 365, []), (.aload_n 0, 1, 0, 0, []), (.getfield 28, 3, 0, 364, []), (.aload_n 0, 1, 0, 0, []), (.getfield 9, 3, 0, 360, []), (.aload_n 0, 1, 0, 0, []), (.getfield 67, 3, 0, 369, []), (.invokevirtual 74, 3, 3, 123, [(0, 0), (0, 0), (0, 0), (0, 0), (0, 0), (0, 0), (0, 0), (0, 0)]), (.istore_n 1, 1, 0, 1, []), (.aload_n 0, 1, 0, 0, []), (.iconst 0, 1, 0, 0, []), (.putfield 67, 3, 0, 369, []), (.iload_n 1, 1, 0, 1, []), (.ifCond .eq 19, 3, 0, 45, [])]
def KX11_read_29 : List RI := [(.aload_n 0, 1, 0, 0, []), (.aload_n 0, 1, 0, 0, []), (.getfield 36, 3, 0, 365, []), (.invokevirtual 78, 3, 0, 124, [(0, 0), (0, 0), (0, 0), (0, 0), (0, 0), (0, 0), (0, 0), (0, 0)]), (.putfield 63, 3, 0, 371, []), (.bipush (-10), 2, 0, 0, []), (.iload_n 1, 1, 0, 1, []), (.isub, 1, 0, 0, []), (.ireturn, 1, 1, 0, [])]
def KX11_read_45 : List RI := [(.aload_n 0, 1, 0, 0, []), (.getfield 24, 3, 0, 363, []), (.astore_n 2, 1, 0, 2, []), (.aload_n 0, 1, 0, 0, []), (.aload_n 0, 1, 0, 0, []), (.getfield 28, 3, 0, 364, []), (.putfield 24, 3, 0, 363, []), (.aload_n 0, 1, 0, 0, []), (.aload_n 2, 1, 0, 2, []), (.putfield 28, 3, 0, 364, []), (.aload_n 0, 1, 0, 0, []), (.bipush (-2), 2, 0, 0, []), (.putfield 63, 3, 0, 371, []), (.aload_n 0, 1, 0, 0, []), (.iconst 0, 1, 0, 0, []), (.putfield 82, 3, 0, 372, []), (.aload_n 0, 1, 0, 0, []), (.getfield 43, 3, 0, 366, []), (.aload_n 0, 1, 0, 0, []), (.getfield 24, 3, 0, 363, []), (.invokevirtual 86, 3, 1, 49, [(0, 0), (0, 0), (0, 0), (0, 0)]), (.aload_n 0, 1, 0, 0, []), (.getfield 24, 3, 0, 363, []), (.getfield 89, 3, 0, 217, []), (.ifCond .ne 14, 3, 0, 106, [])]
def KX11_read_95 : List RI := [(.aload_n 0, 1, 0, 0, []), (.getfield 50, 3, 0, 367, []), (.aload_n 0, 1, 0, 0, []), (.getfield 24, 3, 0, 363, []), (.invokevirtual 92, 3, 1, 1, [(0, 0)])]
def KX11_read_106 : List RI := [(.aload_n 0, 1, 0, 0, []), (.getfield 24, 3, 0, 363, []), (.getfield 95, 3, 0, 211, []), (.invokevirtual 99, 3, 0, 234, []), (.ireturn, 1, 1, 0, [])]
def KX11_read : RB := [(0, KX11_read_0), (29, KX11_read_29), (45, KX11_read_45), (95, KX11_read_95), (106, KX11_read_106)]
def rX11_read : CmC := (yX11_read, cX11_read, 3, (some .int), 0, 12, false)
theorem hX11_read : mtC[204]? = some rX11_read := rfl
set_option maxRecDepth 100000 in
theorem okX11_read : cokMC rX11_read KX11_read = true := cokMC_of [] (fun _ h => absurd h List.not_mem_nil) (by decide +kernel) (by decide +kernel)
def KX11_place_0 : List RI := [(.aload_n 0, 1, 0, 0, []), (.getfield 63, 3, 0, 371, []), (.ireturn, 1, 1, 0, [])]
def KX11_place : RB := [(0, KX11_place_0)]
def rX11_place : CmC := (yX11_place, cX11_place, 1, (some .int), 0, 12, false)
theorem hX11_place : mtC[205]? = some rX11_place := rfl
set_option maxRecDepth 100000 in
theorem okX11_place : cokMC rX11_place KX11_place = true := cokMC_of [] (fun _ h => absurd h List.not_mem_nil) (by decide +kernel) (by decide +kernel)
def KX11_judge_0 : List RI := [(.aload_n 0, 1, 0, 0, []), (.aload_n 0, 1, 0, 0, []), (.getfield 24, 3, 0, 363, []), (.getfield 89, 3, 0, 217, []), (.ifCond .ne 8, 3, 0, 16, [])]
def KX11_judge_11 : List RI := [(.bipush (-2), 2, 0, 0, []), (.goto 10, 3, 0, 23, [])]
def KX11_judge_16 : List RI := [(.aload_n 0, 1, 0, 0, []), (.getfield 24, 3, 0, 363, []), (.getfield 104, 3, 0, 218, [])]
def KX11_judge_23 : List RI := [(.putfield 63, 3, 0, 371, []), (.aload_n 0, 1, 0, 0, []), (.getfield 24, 3, 0, 363, []), (.getfield 89, 3, 0, 217, []), (.ireturn, 1, 1, 0, [])]
def KX11_judge : RB := [(0, KX11_judge_0), (11, KX11_judge_11), (16, KX11_judge_16), (23, KX11_judge_23)]
def rX11_judge : CmC := (yX11_judge, cX11_judge, 1, (some .int), 0, 12, false)
theorem hX11_judge : mtC[206]? = some rX11_judge := rfl
set_option maxRecDepth 100000 in
theorem okX11_judge : cokMC rX11_judge KX11_judge = true := cokMC_of [] (fun _ h => absurd h List.not_mem_nil) (by decide +kernel) (by decide +kernel)
def KX11_told_0 : List RI := [(.iload_n 1, 1, 0, 1, []), (.tableswitch 69 0 3 #[31, 42, 53, 64], 31, 0, 70, [(0, 32), (1, 43), (2, 54), (3, 65)])]
def KX11_told_32 : List RI := [(.aload_n 0, 1, 0, 0, []), (.getfield 24, 3, 0, 363, []), (.getfield 107, 3, 0, 210, []), (.getfield 111, 3, 0, 305, []), (.ireturn, 1, 1, 0, [])]
def KX11_told_43 : List RI := [(.aload_n 0, 1, 0, 0, []), (.getfield 24, 3, 0, 363, []), (.getfield 95, 3, 0, 211, []), (.invokevirtual 99, 3, 0, 234, []), (.ireturn, 1, 1, 0, [])]
def KX11_told_54 : List RI := [(.aload_n 0, 1, 0, 0, []), (.getfield 24, 3, 0, 363, []), (.getfield 116, 3, 0, 212, []), (.invokevirtual 99, 3, 0, 234, []), (.ireturn, 1, 1, 0, [])]
def KX11_told_65 : List RI := [(.aload_n 0, 1, 0, 0, []), (.getfield 119, 3, 0, 370, []), (.ireturn, 1, 1, 0, [])]
def KX11_told_70 : List RI := [(.iconst (-1), 1, 0, 0, []), (.ireturn, 1, 1, 0, [])]
def KX11_told : RB := [(0, KX11_told_0), (32, KX11_told_32), (43, KX11_told_43), (54, KX11_told_54), (65, KX11_told_65), (70, KX11_told_70)]
def rX11_told : CmC := (yX11_told, cX11_told, 2, (some .int), 1, 12, false)
theorem hX11_told : mtC[207]? = some rX11_told := rfl
set_option maxRecDepth 100000 in
theorem swX11_told_1 : decode cX11_told 1 = .ok (.tableswitch 69 0 3 #[31, 42, 53, 64], 31) := by decide +kernel
set_option maxRecDepth 100000 in
theorem okX11_told : cokMC rX11_told KX11_told = true := cokMC_of [(1, .tableswitch 69 0 3 #[31, 42, 53, 64], 31)] (fun q hq => by
  obtain rfl := List.mem_singleton.mp hq
  exact swX11_told_1) (by decide +kernel) (by decide +kernel)
def KX11_token_0 : List RI := [(.aload_n 0, 1, 0, 0, []), (.getfield 24, 3, 0, 363, []), (.getfield 107, 3, 0, 210, []), (.astore_n 3, 1, 0, 3, []), (.iload_n 1, 1, 0, 1, []), (.ifCond .lt 11, 3, 0, 20, [])]
def KX11_token_12 : List RI := [(.iload_n 1, 1, 0, 1, []), (.aload_n 3, 1, 0, 3, []), (.getfield 111, 3, 0, 305, []), (.if_icmp .lt 5, 3, 0, 22, [])]
def KX11_token_20 : List RI := [(.iconst (-1), 1, 0, 0, []), (.ireturn, 1, 1, 0, [])]
def KX11_token_22 : List RI := [(.iload_n 2, 1, 0, 2, []), (.tableswitch 45 0 2 #[25, 32, 39], 25, 0, 68, [(0, 48), (1, 55), (2, 62)])]
def KX11_token_48 : List RI := [(.aload_n 3, 1, 0, 3, []), (.getfield 122, 3, 0, 300, []), (.iload_n 1, 1, 0, 1, []), (.iaload, 1, 0, 0, []), (.ireturn, 1, 1, 0, [])]
def KX11_token_55 : List RI := [(.aload_n 3, 1, 0, 3, []), (.getfield 124, 3, 0, 301, []), (.iload_n 1, 1, 0, 1, []), (.iaload, 1, 0, 0, []), (.ireturn, 1, 1, 0, [])]
def KX11_token_62 : List RI := [(.aload_n 3, 1, 0, 3, []), (.iload_n 1, 1, 0, 1, []), (.invokevirtual 126, 3, 1, 187, [(0, 0), (0, 0), (0, 0), (0, 0), (0, 0), (0, 0), (0, 0), (0, 0), (0, 0), (0, 0)]), (.ireturn, 1, 1, 0, [])]
def KX11_token_68 : List RI := [(.iconst (-1), 1, 0, 0, []), (.ireturn, 1, 1, 0, [])]
def KX11_token : RB := [(0, KX11_token_0), (12, KX11_token_12), (20, KX11_token_20), (22, KX11_token_22), (48, KX11_token_48), (55, KX11_token_55), (62, KX11_token_62), (68, KX11_token_68)]
def rX11_token : CmC := (yX11_token, cX11_token, 4, (some .int), 2, 12, false)
theorem hX11_token : mtC[208]? = some rX11_token := rfl
set_option maxRecDepth 100000 in
theorem swX11_token_23 : decode cX11_token 23 = .ok (.tableswitch 45 0 2 #[25, 32, 39], 25) := by decide +kernel
set_option maxRecDepth 100000 in
theorem okX11_token : cokMC rX11_token KX11_token = true := cokMC_of [(23, .tableswitch 45 0 2 #[25, 32, 39], 25)] (fun q hq => by
  obtain rfl := List.mem_singleton.mp hq
  exact swX11_token_23) (by decide +kernel) (by decide +kernel)
def KX11_method_0 : List RI := [(.iload_n 1, 1, 0, 1, []), (.ifCond .lt 17, 3, 0, 18, [])]
def KX11_method_4 : List RI := [(.iload_n 1, 1, 0, 1, []), (.aload_n 0, 1, 0, 0, []), (.getfield 24, 3, 0, 363, []), (.getfield 95, 3, 0, 211, []), (.invokevirtual 99, 3, 0, 234, []), (.if_icmp .lt 5, 3, 0, 20, [])]
def KX11_method_18 : List RI := [(.iconst (-1), 1, 0, 0, []), (.ireturn, 1, 1, 0, [])]
def KX11_method_20 : List RI := [(.aload_n 0, 1, 0, 0, []), (.getfield 24, 3, 0, 363, []), (.getfield 95, 3, 0, 211, []), (.iload_n 1, 1, 0, 1, []), (.invokevirtual 130, 3, 1, 235, []), (.checkcast 134, 3, 0, 6, []), (.astore_n 3, 1, 0, 3, []), (.iload_n 2, 1, 0, 2, []), (.tableswitch 43 0 2 #[28, 33, 38], 28, 0, 79, [(0, 64), (1, 69), (2, 74)])]
def KX11_method_64 : List RI := [(.aload_n 3, 1, 0, 3, []), (.getfield 136, 3, 0, 180, []), (.ireturn, 1, 1, 0, [])]
def KX11_method_69 : List RI := [(.aload_n 3, 1, 0, 3, []), (.getfield 139, 3, 0, 182, []), (.ireturn, 1, 1, 0, [])]
def KX11_method_74 : List RI := [(.aload_n 3, 1, 0, 3, []), (.getfield 142, 3, 0, 185, []), (.ireturn, 1, 1, 0, [])]
def KX11_method_79 : List RI := [(.iload_n 2, 1, 0, 2, []), (.bipush 10, 2, 0, 0, []), (.if_icmp .lt 26, 3, 0, 108, [])]
def KX11_method_85 : List RI := [(.iload_n 2, 1, 0, 2, []), (.bipush 10, 2, 0, 0, []), (.isub, 1, 0, 0, []), (.aload_n 3, 1, 0, 3, []), (.getfield 142, 3, 0, 185, []), (.if_icmp .ge 15, 3, 0, 108, [])]
def KX11_method_96 : List RI := [(.aload_n 3, 1, 0, 3, []), (.getfield 145, 3, 0, 183, []), (.iload_n 2, 1, 0, 2, []), (.bipush 10, 2, 0, 0, []), (.isub, 1, 0, 0, []), (.iaload, 1, 0, 0, []), (.goto 4, 3, 0, 109, [])]
def KX11_method_108 : List RI := [(.iconst (-1), 1, 0, 0, [])]
def KX11_method_109 : List RI := [(.ireturn, 1, 1, 0, [])]
def KX11_method : RB := [(0, KX11_method_0), (4, KX11_method_4), (18, KX11_method_18), (20, KX11_method_20), (64, KX11_method_64), (69, KX11_method_69), (74, KX11_method_74), (79, KX11_method_79), (85, KX11_method_85), (96, KX11_method_96), (108, KX11_method_108), (109, KX11_method_109)]
def rX11_method : CmC := (yX11_method, cX11_method, 4, (some .int), 2, 12, false)
theorem hX11_method : mtC[209]? = some rX11_method := rfl
set_option maxRecDepth 100000 in
theorem swX11_method_36 : decode cX11_method 36 = .ok (.tableswitch 43 0 2 #[28, 33, 38], 28) := by decide +kernel
set_option maxRecDepth 100000 in
theorem okX11_method : cokMC rX11_method KX11_method = true := cokMC_of [(36, .tableswitch 43 0 2 #[28, 33, 38], 28)] (fun q hq => by
  obtain rfl := List.mem_singleton.mp hq
  exact swX11_method_36) (by decide +kernel) (by decide +kernel)
def KX11_variable_0 : List RI := [(.iload_n 1, 1, 0, 1, []), (.ifCond .lt 17, 3, 0, 18, [])]
def KX11_variable_4 : List RI := [(.iload_n 1, 1, 0, 1, []), (.aload_n 0, 1, 0, 0, []), (.getfield 24, 3, 0, 363, []), (.getfield 116, 3, 0, 212, []), (.invokevirtual 99, 3, 0, 234, []), (.if_icmp .lt 5, 3, 0, 20, [])]
def KX11_variable_18 : List RI := [(.iconst (-1), 1, 0, 0, []), (.ireturn, 1, 1, 0, [])]
def KX11_variable_20 : List RI := [(.aload_n 0, 1, 0, 0, []), (.getfield 24, 3, 0, 363, []), (.getfield 116, 3, 0, 212, []), (.iload_n 1, 1, 0, 1, []), (.invokevirtual 130, 3, 1, 235, []), (.checkcast 148, 3, 0, 11, []), (.astore_n 3, 1, 0, 3, []), (.iload_n 2, 1, 0, 2, []), (.tableswitch 60 0 3 #[32, 37, 42, 55], 32, 0, 96, [(0, 68), (1, 73), (2, 78), (3, 91)])]
def KX11_variable_68 : List RI := [(.aload_n 3, 1, 0, 3, []), (.getfield 150, 3, 0, 330, []), (.ireturn, 1, 1, 0, [])]
def KX11_variable_73 : List RI := [(.aload_n 3, 1, 0, 3, []), (.getfield 151, 3, 0, 331, []), (.ireturn, 1, 1, 0, [])]
def KX11_variable_78 : List RI := [(.aload_n 3, 1, 0, 3, []), (.getfield 152, 3, 0, 332, []), (.ifCond .eq 7, 3, 0, 89, [])]
def KX11_variable_85 : List RI := [(.iconst 1, 1, 0, 0, []), (.goto 4, 3, 0, 90, [])]
def KX11_variable_89 : List RI := [(.iconst 0, 1, 0, 0, [])]
def KX11_variable_90 : List RI := [(.ireturn, 1, 1, 0, [])]
def KX11_variable_91 : List RI := [(.aload_n 3, 1, 0, 3, []), (.getfield 155, 3, 0, 333, []), (.ireturn, 1, 1, 0, [])]
def KX11_variable_96 : List RI := [(.iconst (-1), 1, 0, 0, []), (.ireturn, 1, 1, 0, [])]
def KX11_variable : RB := [(0, KX11_variable_0), (4, KX11_variable_4), (18, KX11_variable_18), (20, KX11_variable_20), (68, KX11_variable_68), (73, KX11_variable_73), (78, KX11_variable_78), (85, KX11_variable_85), (89, KX11_variable_89), (90, KX11_variable_90), (91, KX11_variable_91), (96, KX11_variable_96)]
def rX11_variable : CmC := (yX11_variable, cX11_variable, 4, (some .int), 2, 12, false)
theorem hX11_variable : mtC[210]? = some rX11_variable := rfl
set_option maxRecDepth 100000 in
theorem swX11_variable_36 : decode cX11_variable 36 = .ok (.tableswitch 60 0 3 #[32, 37, 42, 55], 32) := by decide +kernel
set_option maxRecDepth 100000 in
theorem okX11_variable : cokMC rX11_variable KX11_variable = true := cokMC_of [(36, .tableswitch 60 0 3 #[32, 37, 42, 55], 32)] (fun q hq => by
  obtain rfl := List.mem_singleton.mp hq
  exact swX11_variable_36) (by decide +kernel) (by decide +kernel)
def KX11_means_0 : List RI := [(.aload_n 0, 1, 0, 0, []), (.getfield 24, 3, 0, 363, []), (.getfield 107, 3, 0, 210, []), (.astore_n 2, 1, 0, 2, []), (.iload_n 1, 1, 0, 1, []), (.ifCond .lt 22, 3, 0, 31, [])]
def KX11_means_12 : List RI := [(.iload_n 1, 1, 0, 1, []), (.aload_n 2, 1, 0, 2, []), (.getfield 111, 3, 0, 305, []), (.if_icmp .ge 14, 3, 0, 31, [])]
def KX11_means_20 : List RI := [(.aload_n 2, 1, 0, 2, []), (.getfield 158, 3, 0, 302, []), (.iload_n 1, 1, 0, 1, []), (.iaload, 1, 0, 0, []), (.bipush 80, 2, 0, 0, []), (.if_icmp .eq 5, 3, 0, 33, [])]
def KX11_means_31 : List RI := [(.iconst (-1), 1, 0, 0, []), (.ireturn, 1, 1, 0, [])]
def KX11_means_33 : List RI := [(.aload_n 0, 1, 0, 0, []), (.getfield 24, 3, 0, 363, []), (.getfield 89, 3, 0, 217, []), (.ifCond .eq 8, 3, 0, 48, [])]
def KX11_means_43 : List RI := [(.bipush (-2), 2, 0, 0, []), (.goto 9, 3, 0, 54, [])]
def KX11_means_48 : List RI := [(.aload_n 2, 1, 0, 2, []), (.getfield 160, 3, 0, 303, []), (.iload_n 1, 1, 0, 1, []), (.iaload, 1, 0, 0, [])]
def KX11_means_54 : List RI := [(.ireturn, 1, 1, 0, [])]
def KX11_means : RB := [(0, KX11_means_0), (12, KX11_means_12), (20, KX11_means_20), (31, KX11_means_31), (33, KX11_means_33), (43, KX11_means_43), (48, KX11_means_48), (54, KX11_means_54)]
def rX11_means : CmC := (yX11_means, cX11_means, 3, (some .int), 1, 12, false)
theorem hX11_means : mtC[211]? = some rX11_means := rfl
set_option maxRecDepth 100000 in
theorem okX11_means : cokMC rX11_means KX11_means = true := cokMC_of [] (fun _ h => absurd h List.not_mem_nil) (by decide +kernel) (by decide +kernel)
def KX11_type_0 : List RI := [(.aload_n 0, 1, 0, 0, []), (.getfield 24, 3, 0, 363, []), (.getfield 89, 3, 0, 217, []), (.ifCond .eq 6, 3, 0, 13, [])]
def KX11_type_10 : List RI := [(.bipush (-2), 2, 0, 0, []), (.ireturn, 1, 1, 0, [])]
def KX11_type_13 : List RI := [(.aload_n 0, 1, 0, 0, []), (.getfield 24, 3, 0, 363, []), (.iload_n 1, 1, 0, 1, []), (.iload_n 2, 1, 0, 2, []), (.invokevirtual 163, 3, 2, 120, [(0, 0), (0, 0), (0, 0), (0, 0), (0, 0), (0, 0), (0, 0)]), (.astore_n 3, 1, 0, 3, []), (.aload_n 3, 1, 0, 3, []), (.ifnonnull 7, 3, 0, 31, [])]
def KX11_type_27 : List RI := [(.iconst (-1), 1, 0, 0, []), (.goto 7, 3, 0, 35, [])]
def KX11_type_31 : List RI := [(.aload_n 3, 1, 0, 3, []), (.getfield 167, 3, 0, 68, [])]
def KX11_type_35 : List RI := [(.ireturn, 1, 1, 0, [])]
def KX11_type : RB := [(0, KX11_type_0), (10, KX11_type_10), (13, KX11_type_13), (27, KX11_type_27), (31, KX11_type_31), (35, KX11_type_35)]
def rX11_type : CmC := (yX11_type, cX11_type, 4, (some .int), 2, 12, false)
theorem hX11_type : mtC[212]? = some rX11_type := rfl
set_option maxRecDepth 100000 in
theorem okX11_type : cokMC rX11_type KX11_type = true := cokMC_of [] (fun _ h => absurd h List.not_mem_nil) (by decide +kernel) (by decide +kernel)
def KX11_constant_0 : List RI := [(.aload_n 0, 1, 0, 0, []), (.getfield 24, 3, 0, 363, []), (.getfield 89, 3, 0, 217, []), (.ifCond .eq 7, 3, 0, 14, [])]
def KX11_constant_10 : List RI := [(.ldc2_w 170, 3, (-1234567890123), 0, []), (.lreturn, 1, 0, 0, [])]
def KX11_constant_14 : List RI := [(.aload_n 0, 1, 0, 0, []), (.getfield 24, 3, 0, 363, []), (.iload_n 1, 1, 0, 1, []), (.iload_n 2, 1, 0, 2, []), (.invokevirtual 163, 3, 2, 120, [(0, 0), (0, 0), (0, 0), (0, 0), (0, 0), (0, 0), (0, 0)]), (.astore_n 3, 1, 0, 3, []), (.aload_n 3, 1, 0, 3, []), (.ifnull 10, 3, 0, 35, [])]
def KX11_constant_28 : List RI := [(.aload_n 3, 1, 0, 3, []), (.getfield 172, 3, 0, 70, []), (.ifCond .ne 9, 3, 0, 41, [])]
def KX11_constant_35 : List RI := [(.ldc2_w 170, 3, (-1234567890123), 0, []), (.goto 7, 3, 0, 45, [])]
def KX11_constant_41 : List RI := [(.aload_n 3, 1, 0, 3, []), (.getfield 175, 3, 0, 71, [])]
def KX11_constant_45 : List RI := [(.lreturn, 1, 0, 0, [])]
def KX11_constant : RB := [(0, KX11_constant_0), (10, KX11_constant_10), (14, KX11_constant_14), (28, KX11_constant_28), (35, KX11_constant_35), (41, KX11_constant_41), (45, KX11_constant_45)]
def rX11_constant : CmC := (yX11_constant, cX11_constant, 4, (some .long), 2, 12, false)
theorem hX11_constant : mtC[213]? = some rX11_constant := rfl
set_option maxRecDepth 100000 in
theorem okX11_constant : cokMC rX11_constant KX11_constant = true := cokMC_of [] (fun _ h => absurd h List.not_mem_nil) (by decide +kernel) (by decide +kernel)
def KX11_ends_0 : List RI := [(.aload_n 0, 1, 0, 0, []), (.getfield 24, 3, 0, 363, []), (.getfield 89, 3, 0, 217, []), (.ifCond .eq 6, 3, 0, 13, [])]
def KX11_ends_10 : List RI := [(.bipush (-2), 2, 0, 0, []), (.ireturn, 1, 1, 0, [])]
def KX11_ends_13 : List RI := [(.aload_n 0, 1, 0, 0, []), (.getfield 24, 3, 0, 363, []), (.iload_n 1, 1, 0, 1, []), (.invokevirtual 179, 3, 1, 121, [(0, 0), (0, 0), (0, 0), (0, 0), (0, 0), (0, 0), (0, 0)]), (.astore_n 2, 1, 0, 2, []), (.aload_n 2, 1, 0, 2, []), (.ifnonnull 5, 3, 0, 28, [])]
def KX11_ends_26 : List RI := [(.iconst (-1), 1, 0, 0, []), (.ireturn, 1, 1, 0, [])]
def KX11_ends_28 : List RI := [(.aload_n 2, 1, 0, 2, []), (.getfield 183, 3, 0, 282, []), (.ifCond .eq 7, 3, 0, 39, [])]
def KX11_ends_35 : List RI := [(.iconst 1, 1, 0, 0, []), (.goto 4, 3, 0, 40, [])]
def KX11_ends_39 : List RI := [(.iconst 0, 1, 0, 0, [])]
def KX11_ends_40 : List RI := [(.ireturn, 1, 1, 0, [])]
def KX11_ends : RB := [(0, KX11_ends_0), (10, KX11_ends_10), (13, KX11_ends_13), (26, KX11_ends_26), (28, KX11_ends_28), (35, KX11_ends_35), (39, KX11_ends_39), (40, KX11_ends_40)]
def rX11_ends : CmC := (yX11_ends, cX11_ends, 3, (some .int), 1, 12, false)
theorem hX11_ends : mtC[214]? = some rX11_ends := rfl
set_option maxRecDepth 100000 in
theorem okX11_ends : cokMC rX11_ends KX11_ends = true := cokMC_of [] (fun _ h => absurd h List.not_mem_nil) (by decide +kernel) (by decide +kernel)
def KX11_assigned_0 : List RI := [(.aload_n 0, 1, 0, 0, []), (.getfield 24, 3, 0, 363, []), (.getfield 89, 3, 0, 217, []), (.ifCond .eq 6, 3, 0, 13, [])]
def KX11_assigned_10 : List RI := [(.bipush (-2), 2, 0, 0, []), (.ireturn, 1, 1, 0, [])]
def KX11_assigned_13 : List RI := [(.aload_n 0, 1, 0, 0, []), (.getfield 24, 3, 0, 363, []), (.iload_n 1, 1, 0, 1, []), (.invokevirtual 179, 3, 1, 121, [(0, 0), (0, 0), (0, 0), (0, 0), (0, 0), (0, 0), (0, 0)]), (.astore_n 3, 1, 0, 3, []), (.aload_n 3, 1, 0, 3, []), (.ifnull 32, 3, 0, 55, [])]
def KX11_assigned_26 : List RI := [(.iload_n 2, 1, 0, 2, []), (.ifCond .lt 28, 3, 0, 55, [])]
def KX11_assigned_30 : List RI := [(.iload_n 2, 1, 0, 2, []), (.aload_n 0, 1, 0, 0, []), (.getfield 24, 3, 0, 363, []), (.getfield 116, 3, 0, 212, []), (.invokevirtual 99, 3, 0, 234, []), (.if_icmp .ge 14, 3, 0, 55, [])]
def KX11_assigned_44 : List RI := [(.aload_n 3, 1, 0, 3, []), (.getfield 188, 3, 0, 274, []), (.iload_n 2, 1, 0, 2, []), (.invokestatic 191, 3, 2, 221, []), (.ifCond .ne 5, 3, 0, 57, [])]
def KX11_assigned_55 : List RI := [(.iconst (-1), 1, 0, 0, []), (.ireturn, 1, 1, 0, [])]
def KX11_assigned_57 : List RI := [(.aload_n 3, 1, 0, 3, []), (.getfield 195, 3, 0, 285, []), (.iload_n 2, 1, 0, 2, []), (.invokestatic 191, 3, 2, 221, []), (.ifCond .eq 7, 3, 0, 72, [])]
def KX11_assigned_68 : List RI := [(.iconst 1, 1, 0, 0, []), (.goto 4, 3, 0, 73, [])]
def KX11_assigned_72 : List RI := [(.iconst 0, 1, 0, 0, [])]
def KX11_assigned_73 : List RI := [(.ireturn, 1, 1, 0, [])]
def KX11_assigned : RB := [(0, KX11_assigned_0), (10, KX11_assigned_10), (13, KX11_assigned_13), (26, KX11_assigned_26), (30, KX11_assigned_30), (44, KX11_assigned_44), (55, KX11_assigned_55), (57, KX11_assigned_57), (68, KX11_assigned_68), (72, KX11_assigned_72), (73, KX11_assigned_73)]
def rX11_assigned : CmC := (yX11_assigned, cX11_assigned, 4, (some .int), 2, 12, false)
theorem hX11_assigned : mtC[215]? = some rX11_assigned := rfl
set_option maxRecDepth 100000 in
theorem okX11_assigned : cokMC rX11_assigned KX11_assigned = true := cokMC_of [] (fun _ h => absurd h List.not_mem_nil) (by decide +kernel) (by decide +kernel)
def KX11_argument_0 : List RI := [(.iload_n 1, 1, 0, 1, []), (.ifCond .lt 9, 3, 0, 10, [])]
def KX11_argument_4 : List RI := [(.iload_n 1, 1, 0, 1, []), (.bipush 6, 2, 0, 0, []), (.if_icmp .lt 5, 3, 0, 12, [])]
def KX11_argument_10 : List RI := [(.iconst (-1), 1, 0, 0, []), (.ireturn, 1, 1, 0, [])]
def KX11_argument_12 : List RI := [(.aload_n 0, 1, 0, 0, []), (.getfield 17, 3, 0, 362, []), (.iload_n 1, 1, 0, 1, []), (.lload_n 2, 1, 0, 2, []), (.lastore, 1, 0, 0, []), (.iconst 1, 1, 0, 0, []), (.ireturn, 1, 1, 0, [])]
def KX11_argument : RB := [(0, KX11_argument_0), (4, KX11_argument_4), (10, KX11_argument_10), (12, KX11_argument_12)]
def rX11_argument : CmC := (yX11_argument, cX11_argument, 4, (some .int), 2, 12, false)
theorem hX11_argument : mtC[216]? = some rX11_argument := rfl
set_option maxRecDepth 100000 in
theorem okX11_argument : cokMC rX11_argument KX11_argument = true := cokMC_of [] (fun _ h => absurd h List.not_mem_nil) (by decide +kernel) (by decide +kernel)
def KX11_input_0 : List RI := [(.aload_n 0, 1, 0, 0, []), (.getfield 119, 3, 0, 370, []), (.bipush 40, 2, 0, 0, []), (.if_icmp .lt 6, 3, 0, 12, [])]
def KX11_input_9 : List RI := [(.bipush (-3), 2, 0, 0, []), (.ireturn, 1, 1, 0, [])]
def KX11_input_12 : List RI := [(.aload_n 0, 1, 0, 0, []), (.getfield 13, 3, 0, 361, []), (.aload_n 0, 1, 0, 0, []), (.getfield 119, 3, 0, 370, []), (.iload_n 1, 1, 0, 1, []), (.iastore, 1, 0, 0, []), (.aload_n 0, 1, 0, 0, []), (.dup, 1, 0, 0, []), (.getfield 119, 3, 0, 370, []), (.iconst 1, 1, 0, 0, []), (.iadd, 1, 0, 0, []), (.putfield 119, 3, 0, 370, []), (.aload_n 0, 1, 0, 0, []), (.getfield 119, 3, 0, 370, []), (.ireturn, 1, 1, 0, [])]
def KX11_input : RB := [(0, KX11_input_0), (9, KX11_input_9), (12, KX11_input_12)]
def rX11_input : CmC := (yX11_input, cX11_input, 2, (some .int), 1, 12, false)
theorem hX11_input : mtC[217]? = some rX11_input := rfl
set_option maxRecDepth 100000 in
theorem okX11_input : cokMC rX11_input KX11_input = true := cokMC_of [] (fun _ h => absurd h List.not_mem_nil) (by decide +kernel) (by decide +kernel)
def KX11_drain_0 : List RI := [(.aload_n 0, 1, 0, 0, []), (.getfield 119, 3, 0, 370, []), (.istore_n 1, 1, 0, 1, []), (.aload_n 0, 1, 0, 0, []), (.iconst 0, 1, 0, 0, []), (.putfield 119, 3, 0, 370, []), (.iload_n 1, 1, 0, 1, []), (.ireturn, 1, 1, 0, [])]
def KX11_drain : RB := [(0, KX11_drain_0)]
def rX11_drain : CmC := (yX11_drain, cX11_drain, 2, (some .int), 0, 12, false)
theorem hX11_drain : mtC[218]? = some rX11_drain := rfl
set_option maxRecDepth 100000 in
theorem okX11_drain : cokMC rX11_drain KX11_drain = true := cokMC_of [] (fun _ h => absurd h List.not_mem_nil) (by decide +kernel) (by decide +kernel)
def KX11_run_0 : List RI := [(.iload_n 1, 1, 0, 1, []), (.ifCond .lt 29, 3, 0, 30, [])]
def KX11_run_4 : List RI := [(.iload_n 1, 1, 0, 1, []), (.aload_n 0, 1, 0, 0, []), (.getfield 24, 3, 0, 363, []), (.getfield 95, 3, 0, 211, []), (.invokevirtual 99, 3, 0, 234, []), (.if_icmp .ge 15, 3, 0, 30, [])]
def KX11_run_18 : List RI := [(.iload_n 2, 1, 0, 2, []), (.iconst 1, 1, 0, 0, []), (.if_icmp .lt 10, 3, 0, 30, [])]
def KX11_run_23 : List RI := [(.iload_n 2, 1, 0, 2, []), (.sipush 20000, 3, 0, 0, []), (.if_icmp .le 5, 3, 0, 32, [])]
def KX11_run_30 : List RI := [(.iconst (-1), 1, 0, 0, []), (.ireturn, 1, 1, 0, [])]
def KX11_run_32 : List RI := [(.aload_n 0, 1, 0, 0, []), (.getfield 24, 3, 0, 363, []), (.getfield 89, 3, 0, 217, []), (.ifCond .eq 6, 3, 0, 45, [])]
def KX11_run_42 : List RI := [(.bipush (-2), 2, 0, 0, []), (.ireturn, 1, 1, 0, [])]
def KX11_run_45 : List RI := [(.aload_n 0, 1, 0, 0, []), (.iconst 1, 1, 0, 0, []), (.putfield 82, 3, 0, 372, []), (.aload_n 0, 1, 0, 0, []), (.getfield 59, 3, 0, 368, []), (.aload_n 0, 1, 0, 0, []), (.getfield 13, 3, 0, 361, []), (.aload_n 0, 1, 0, 0, []), (.getfield 119, 3, 0, 370, []), (.invokevirtual 198, 3, 2, 88, [(0, 0), (0, 0), (0, 0), (0, 0), (0, 0)]), (.aload_n 0, 1, 0, 0, []), (.getfield 59, 3, 0, 368, []), (.aload_n 0, 1, 0, 0, []), (.getfield 24, 3, 0, 363, []), (.getfield 95, 3, 0, 211, []), (.iload_n 1, 1, 0, 1, []), (.invokevirtual 130, 3, 1, 235, []), (.checkcast 134, 3, 0, 6, []), (.aload_n 0, 1, 0, 0, []), (.getfield 17, 3, 0, 362, []), (.iload_n 2, 1, 0, 2, []), (.invokevirtual 202, 3, 3, 89, [(0, 0), (0, 0), (0, 0), (0, 0), (0, 0)]), (.ireturn, 1, 1, 0, [])]
def KX11_run : RB := [(0, KX11_run_0), (4, KX11_run_4), (18, KX11_run_18), (23, KX11_run_23), (30, KX11_run_30), (32, KX11_run_32), (42, KX11_run_42), (45, KX11_run_45)]
def rX11_run : CmC := (yX11_run, cX11_run, 3, (some .int), 2, 12, false)
theorem hX11_run : mtC[219]? = some rX11_run := rfl
set_option maxRecDepth 100000 in
theorem okX11_run : cokMC rX11_run KX11_run = true := cokMC_of [] (fun _ h => absurd h List.not_mem_nil) (by decide +kernel) (by decide +kernel)
def KX11_ran_0 : List RI := [(.aload_n 0, 1, 0, 0, []), (.getfield 82, 3, 0, 372, []), (.ifCond .eq 14, 3, 0, 18, [])]
def KX11_ran_7 : List RI := [(.aload_n 0, 1, 0, 0, []), (.getfield 59, 3, 0, 368, []), (.iload_n 1, 1, 0, 1, []), (.invokevirtual 206, 3, 1, 90, [(0, 0), (0, 0), (0, 0), (0, 0), (0, 0)]), (.goto 6, 3, 0, 21, [])]
def KX11_ran_18 : List RI := [(.ldc2_w 170, 3, (-1234567890123), 0, [])]
def KX11_ran_21 : List RI := [(.lreturn, 1, 0, 0, [])]
def KX11_ran : RB := [(0, KX11_ran_0), (7, KX11_ran_7), (18, KX11_ran_18), (21, KX11_ran_21)]
def rX11_ran : CmC := (yX11_ran, cX11_ran, 2, (some .long), 1, 12, false)
theorem hX11_ran : mtC[220]? = some rX11_ran := rfl
set_option maxRecDepth 100000 in
theorem okX11_ran : cokMC rX11_ran KX11_ran = true := cokMC_of [] (fun _ h => absurd h List.not_mem_nil) (by decide +kernel) (by decide +kernel)
def KX11_has_0 : List RI := [(.lload_n 0, 1, 0, 0, []), (.iload_n 2, 1, 0, 2, []), (.lushr, 1, 0, 0, []), (.lconst 1, 1, 0, 0, []), (.land, 1, 0, 0, []), (.lconst 0, 1, 0, 0, []), (.lcmp, 1, 0, 0, []), (.ifCond .eq 7, 3, 0, 14, [])]
def KX11_has_10 : List RI := [(.iconst 1, 1, 0, 0, []), (.goto 4, 3, 0, 15, [])]
def KX11_has_14 : List RI := [(.iconst 0, 1, 0, 0, [])]
def KX11_has_15 : List RI := [(.ireturn, 1, 2, 0, [])]
def KX11_has : RB := [(0, KX11_has_0), (10, KX11_has_10), (14, KX11_has_14), (15, KX11_has_15)]
def rX11_has : CmC := (yX11_has, cX11_has, 3, (some .boolean), 2, 12, true)
theorem hX11_has : mtC[221]? = some rX11_has := rfl
set_option maxRecDepth 100000 in
theorem okX11_has : cokMC rX11_has KX11_has = true := cokMC_of [] (fun _ h => absurd h List.not_mem_nil) (by decide +kernel) (by decide +kernel)
def KX11_bit_0 : List RI := [(.lconst 1, 1, 0, 0, []), (.iload_n 0, 1, 0, 0, []), (.lshl, 1, 0, 0, []), (.lreturn, 1, 0, 0, [])]
def KX11_bit : RB := [(0, KX11_bit_0)]
def rX11_bit : CmC := (yX11_bit, cX11_bit, 1, (some .long), 1, 12, true)
theorem hX11_bit : mtC[222]? = some rX11_bit := rfl
set_option maxRecDepth 100000 in
theorem okX11_bit : cokMC rX11_bit KX11_bit = true := cokMC_of [] (fun _ h => absurd h List.not_mem_nil) (by decide +kernel) (by decide +kernel)
def KX11_isNumber_0 : List RI := [(.iload_n 0, 1, 0, 0, []), (.iconst 1, 1, 0, 0, []), (.if_icmp .lt 12, 3, 0, 14, [])]
def KX11_isNumber_5 : List RI := [(.iload_n 0, 1, 0, 0, []), (.iconst 4, 1, 0, 0, []), (.if_icmp .gt 7, 3, 0, 14, [])]
def KX11_isNumber_10 : List RI := [(.iconst 1, 1, 0, 0, []), (.goto 4, 3, 0, 15, [])]
def KX11_isNumber_14 : List RI := [(.iconst 0, 1, 0, 0, [])]
def KX11_isNumber_15 : List RI := [(.ireturn, 1, 2, 0, [])]
def KX11_isNumber : RB := [(0, KX11_isNumber_0), (5, KX11_isNumber_5), (10, KX11_isNumber_10), (14, KX11_isNumber_14), (15, KX11_isNumber_15)]
def rX11_isNumber : CmC := (yX11_isNumber, cX11_isNumber, 1, (some .boolean), 1, 12, true)
theorem hX11_isNumber : mtC[223]? = some rX11_isNumber := rfl
set_option maxRecDepth 100000 in
theorem okX11_isNumber : cokMC rX11_isNumber KX11_isNumber = true := cokMC_of [] (fun _ h => absurd h List.not_mem_nil) (by decide +kernel) (by decide +kernel)
def KX11_sameOrWidens_0 : List RI := [(.iload_n 0, 1, 0, 0, []), (.iconst 1, 1, 0, 0, []), (.if_icmp .eq 8, 3, 0, 10, [])]
def KX11_sameOrWidens_5 : List RI := [(.iload_n 0, 1, 0, 0, []), (.iconst 2, 1, 0, 0, []), (.if_icmp .ne 7, 3, 0, 14, [])]
def KX11_sameOrWidens_10 : List RI := [(.iconst 1, 1, 0, 0, []), (.goto 4, 3, 0, 15, [])]
def KX11_sameOrWidens_14 : List RI := [(.iconst 0, 1, 0, 0, [])]
def KX11_sameOrWidens_15 : List RI := [(.istore_n 2, 1, 0, 2, []), (.iload_n 0, 1, 0, 0, []), (.iload_n 1, 1, 0, 1, []), (.if_icmp .eq 26, 3, 0, 44, [])]
def KX11_sameOrWidens_21 : List RI := [(.iload_n 2, 1, 0, 2, []), (.ifCond .eq 8, 3, 0, 30, [])]
def KX11_sameOrWidens_25 : List RI := [(.iload_n 1, 1, 0, 1, []), (.iconst 3, 1, 0, 0, []), (.if_icmp .eq 17, 3, 0, 44, [])]
def KX11_sameOrWidens_30 : List RI := [(.iload_n 2, 1, 0, 2, []), (.ifCond .ne 8, 3, 0, 39, [])]
def KX11_sameOrWidens_34 : List RI := [(.iload_n 0, 1, 0, 0, []), (.iconst 3, 1, 0, 0, []), (.if_icmp .ne 12, 3, 0, 48, [])]
def KX11_sameOrWidens_39 : List RI := [(.iload_n 1, 1, 0, 1, []), (.iconst 4, 1, 0, 0, []), (.if_icmp .ne 7, 3, 0, 48, [])]
def KX11_sameOrWidens_44 : List RI := [(.iconst 1, 1, 0, 0, []), (.goto 4, 3, 0, 49, [])]
def KX11_sameOrWidens_48 : List RI := [(.iconst 0, 1, 0, 0, [])]
def KX11_sameOrWidens_49 : List RI := [(.ireturn, 1, 2, 0, [])]
def KX11_sameOrWidens : RB := [(0, KX11_sameOrWidens_0), (5, KX11_sameOrWidens_5), (10, KX11_sameOrWidens_10), (14, KX11_sameOrWidens_14), (15, KX11_sameOrWidens_15), (21, KX11_sameOrWidens_21), (25, KX11_sameOrWidens_25), (30, KX11_sameOrWidens_30), (34, KX11_sameOrWidens_34), (39, KX11_sameOrWidens_39), (44, KX11_sameOrWidens_44), (48, KX11_sameOrWidens_48), (49, KX11_sameOrWidens_49)]
def rX11_sameOrWidens : CmC := (yX11_sameOrWidens, cX11_sameOrWidens, 3, (some .boolean), 2, 12, true)
theorem hX11_sameOrWidens : mtC[224]? = some rX11_sameOrWidens := rfl
set_option maxRecDepth 100000 in
theorem okX11_sameOrWidens : cokMC rX11_sameOrWidens KX11_sameOrWidens = true := cokMC_of [] (fun _ h => absurd h List.not_mem_nil) (by decide +kernel) (by decide +kernel)
def KX11_isDivision_0 : List RI := [(.iload_n 0, 1, 0, 0, []), (.bipush 37, 2, 0, 0, []), (.if_icmp .eq 9, 3, 0, 12, [])]
def KX11_isDivision_6 : List RI := [(.iload_n 0, 1, 0, 0, []), (.bipush 38, 2, 0, 0, []), (.if_icmp .ne 7, 3, 0, 16, [])]
def KX11_isDivision_12 : List RI := [(.iconst 1, 1, 0, 0, []), (.goto 4, 3, 0, 17, [])]
def KX11_isDivision_16 : List RI := [(.iconst 0, 1, 0, 0, [])]
def KX11_isDivision_17 : List RI := [(.ireturn, 1, 2, 0, [])]
def KX11_isDivision : RB := [(0, KX11_isDivision_0), (6, KX11_isDivision_6), (12, KX11_isDivision_12), (16, KX11_isDivision_16), (17, KX11_isDivision_17)]
def rX11_isDivision : CmC := (yX11_isDivision, cX11_isDivision, 1, (some .boolean), 1, 12, true)
theorem hX11_isDivision : mtC[227]? = some rX11_isDivision := rfl
set_option maxRecDepth 100000 in
theorem okX11_isDivision : cokMC rX11_isDivision KX11_isDivision = true := cokMC_of [] (fun _ h => absurd h List.not_mem_nil) (by decide +kernel) (by decide +kernel)
def KX11_narrowed_0 : List RI := [(.iload_n 0, 1, 0, 0, []), (.tableswitch 41 1 3 #[27, 32, 37], 27, 0, 42, [(1, 28), (2, 33), (3, 38)])]
def KX11_narrowed_28 : List RI := [(.lload_n 1, 1, 0, 1, []), (.l2i, 1, 0, 0, []), (.i2b, 1, 0, 0, []), (.i2l, 1, 0, 0, []), (.lreturn, 1, 0, 0, [])]
def KX11_narrowed_33 : List RI := [(.lload_n 1, 1, 0, 1, []), (.l2i, 1, 0, 0, []), (.i2c, 1, 0, 0, []), (.i2l, 1, 0, 0, []), (.lreturn, 1, 0, 0, [])]
def KX11_narrowed_38 : List RI := [(.lload_n 1, 1, 0, 1, []), (.l2i, 1, 0, 0, []), (.i2l, 1, 0, 0, []), (.lreturn, 1, 0, 0, [])]
def KX11_narrowed_42 : List RI := [(.lload_n 1, 1, 0, 1, []), (.lreturn, 1, 0, 0, [])]
def KX11_narrowed : RB := [(0, KX11_narrowed_0), (28, KX11_narrowed_28), (33, KX11_narrowed_33), (38, KX11_narrowed_38), (42, KX11_narrowed_42)]
def rX11_narrowed : CmC := (yX11_narrowed, cX11_narrowed, 3, (some .long), 2, 12, true)
theorem hX11_narrowed : mtC[228]? = some rX11_narrowed := rfl
set_option maxRecDepth 100000 in
theorem swX11_narrowed_1 : decode cX11_narrowed 1 = .ok (.tableswitch 41 1 3 #[27, 32, 37], 27) := by decide +kernel
set_option maxRecDepth 100000 in
theorem okX11_narrowed : cokMC rX11_narrowed KX11_narrowed = true := cokMC_of [(1, .tableswitch 41 1 3 #[27, 32, 37], 27)] (fun q hq => by
  obtain rfl := List.mem_singleton.mp hq
  exact swX11_narrowed_1) (by decide +kernel) (by decide +kernel)
def KX11_worked_0 : List RI := [(.iload_n 0, 1, 0, 0, []), (.tableswitch 174 22 38 #[155, 160, 150, 174, 174, 174, 174, 174, 174, 165, 165, 165, 83, 92, 101, 110, 130], 83, 0, 175, [(22, 156), (23, 161), (24, 151), (25, 175), (26, 175), (27, 175), (28, 175), (29, 175), (30, 175), (31, 166), (32, 166), (33, 166), (34, 84), (35, 93), (36, 102), (37, 111), (38, 131)])]
def KX11_worked_84 : List RI := [(.iload_n 1, 1, 0, 1, []), (.lload_n 2, 1, 0, 2, []), (.lload 4, 2, 0, 0, []), (.ladd, 1, 0, 0, []), (.invokestatic 216, 3, 2, 228, []), (.lreturn, 1, 0, 0, [])]
def KX11_worked_93 : List RI := [(.iload_n 1, 1, 0, 1, []), (.lload_n 2, 1, 0, 2, []), (.lload 4, 2, 0, 0, []), (.lsub, 1, 0, 0, []), (.invokestatic 216, 3, 2, 228, []), (.lreturn, 1, 0, 0, [])]
def KX11_worked_102 : List RI := [(.iload_n 1, 1, 0, 1, []), (.lload_n 2, 1, 0, 2, []), (.lload 4, 2, 0, 0, []), (.lmul, 1, 0, 0, []), (.invokestatic 216, 3, 2, 228, []), (.lreturn, 1, 0, 0, [])]
def KX11_worked_111 : List RI := [(.lload 4, 2, 0, 0, []), (.lconst 0, 1, 0, 0, []), (.lcmp, 1, 0, 0, []), (.ifCond .ne 7, 3, 0, 122, [])]
def KX11_worked_118 : List RI := [(.lconst 0, 1, 0, 0, []), (.goto 11, 3, 0, 130, [])]
def KX11_worked_122 : List RI := [(.iload_n 1, 1, 0, 1, []), (.lload_n 2, 1, 0, 2, []), (.lload 4, 2, 0, 0, []), (.ldiv, 1, 0, 0, []), (.invokestatic 216, 3, 2, 228, [])]
def KX11_worked_130 : List RI := [(.lreturn, 1, 0, 0, [])]
def KX11_worked_131 : List RI := [(.lload 4, 2, 0, 0, []), (.lconst 0, 1, 0, 0, []), (.lcmp, 1, 0, 0, []), (.ifCond .ne 7, 3, 0, 142, [])]
def KX11_worked_138 : List RI := [(.lconst 0, 1, 0, 0, []), (.goto 11, 3, 0, 150, [])]
def KX11_worked_142 : List RI := [(.iload_n 1, 1, 0, 1, []), (.lload_n 2, 1, 0, 2, []), (.lload 4, 2, 0, 0, []), (.lrem, 1, 0, 0, []), (.invokestatic 216, 3, 2, 228, [])]
def KX11_worked_150 : List RI := [(.lreturn, 1, 0, 0, [])]
def KX11_worked_151 : List RI := [(.lload_n 2, 1, 0, 2, []), (.lload 4, 2, 0, 0, []), (.land, 1, 0, 0, []), (.lreturn, 1, 0, 0, [])]
def KX11_worked_156 : List RI := [(.lload_n 2, 1, 0, 2, []), (.lload 4, 2, 0, 0, []), (.lor, 1, 0, 0, []), (.lreturn, 1, 0, 0, [])]
def KX11_worked_161 : List RI := [(.lload_n 2, 1, 0, 2, []), (.lload 4, 2, 0, 0, []), (.lxor, 1, 0, 0, []), (.lreturn, 1, 0, 0, [])]
def KX11_worked_166 : List RI := [(.iload_n 0, 1, 0, 0, []), (.iload_n 1, 1, 0, 1, []), (.lload_n 2, 1, 0, 2, []), (.lload 4, 2, 0, 0, []), (.invokestatic 220, 3, 4, 230, []), (.lreturn, 1, 0, 0, [])]
def KX11_worked_175 : List RI := [(.iload_n 0, 1, 0, 0, []), (.lload_n 2, 1, 0, 2, []), (.lload 4, 2, 0, 0, []), (.invokestatic 224, 3, 3, 231, []), (.ifCond .eq 7, 3, 0, 189, [])]
def KX11_worked_185 : List RI := [(.lconst 1, 1, 0, 0, []), (.goto 4, 3, 0, 190, [])]
def KX11_worked_189 : List RI := [(.lconst 0, 1, 0, 0, [])]
def KX11_worked_190 : List RI := [(.lreturn, 1, 0, 0, [])]
def KX11_worked : RB := [(0, KX11_worked_0), (84, KX11_worked_84), (93, KX11_worked_93), (102, KX11_worked_102), (111, KX11_worked_111), (118, KX11_worked_118), (122, KX11_worked_122), (130, KX11_worked_130), (131, KX11_worked_131), (138, KX11_worked_138), (142, KX11_worked_142), (150, KX11_worked_150), (151, KX11_worked_151), (156, KX11_worked_156), (161, KX11_worked_161), (166, KX11_worked_166), (175, KX11_worked_175), (185, KX11_worked_185), (189, KX11_worked_189), (190, KX11_worked_190)]
def rX11_worked : CmC := (yX11_worked, cX11_worked, 6, (some .long), 4, 12, true)
theorem hX11_worked : mtC[229]? = some rX11_worked := rfl
set_option maxRecDepth 100000 in
theorem swX11_worked_1 : decode cX11_worked 1 = .ok (.tableswitch 174 22 38 #[155, 160, 150, 174, 174, 174, 174, 174, 174, 165, 165, 165, 83, 92, 101, 110, 130], 83) := by decide +kernel
set_option maxRecDepth 100000 in
theorem okX11_worked : cokMC rX11_worked KX11_worked = true := cokMC_of [(1, .tableswitch 174 22 38 #[155, 160, 150, 174, 174, 174, 174, 174, 174, 165, 165, 165, 83, 92, 101, 110, 130], 83)] (fun q hq => by
  obtain rfl := List.mem_singleton.mp hq
  exact swX11_worked_1) (by decide +kernel) (by decide +kernel)
def KX11_shifted_0 : List RI := [(.iload_n 1, 1, 0, 1, []), (.iconst 4, 1, 0, 0, []), (.if_icmp .ne 43, 3, 0, 45, [])]
def KX11_shifted_5 : List RI := [(.lload 4, 2, 0, 0, []), (.ldc2_w 228, 3, 63, 0, []), (.land, 1, 0, 0, []), (.l2i, 1, 0, 0, []), (.istore 6, 2, 0, 0, []), (.iload_n 0, 1, 0, 0, []), (.bipush 31, 2, 0, 0, []), (.if_icmp .ne 10, 3, 0, 27, [])]
def KX11_shifted_20 : List RI := [(.lload_n 2, 1, 0, 2, []), (.iload 6, 2, 0, 0, []), (.lshl, 1, 0, 0, []), (.goto 20, 3, 0, 44, [])]
def KX11_shifted_27 : List RI := [(.iload_n 0, 1, 0, 0, []), (.bipush 32, 2, 0, 0, []), (.if_icmp .ne 10, 3, 0, 40, [])]
def KX11_shifted_33 : List RI := [(.lload_n 2, 1, 0, 2, []), (.iload 6, 2, 0, 0, []), (.lshr, 1, 0, 0, []), (.goto 7, 3, 0, 44, [])]
def KX11_shifted_40 : List RI := [(.lload_n 2, 1, 0, 2, []), (.iload 6, 2, 0, 0, []), (.lushr, 1, 0, 0, [])]
def KX11_shifted_44 : List RI := [(.lreturn, 1, 0, 0, [])]
def KX11_shifted_45 : List RI := [(.lload 4, 2, 0, 0, []), (.ldc2_w 230, 3, 31, 0, []), (.land, 1, 0, 0, []), (.l2i, 1, 0, 0, []), (.istore 6, 2, 0, 0, []), (.lload_n 2, 1, 0, 2, []), (.l2i, 1, 0, 0, []), (.istore 7, 2, 0, 0, []), (.iload_n 0, 1, 0, 0, []), (.bipush 31, 2, 0, 0, []), (.if_icmp .ne 12, 3, 0, 73, [])]
def KX11_shifted_64 : List RI := [(.iload 7, 2, 0, 0, []), (.iload 6, 2, 0, 0, []), (.ishl, 1, 0, 0, []), (.i2l, 1, 0, 0, []), (.goto 24, 3, 0, 94, [])]
def KX11_shifted_73 : List RI := [(.iload_n 0, 1, 0, 0, []), (.bipush 32, 2, 0, 0, []), (.if_icmp .ne 12, 3, 0, 88, [])]
def KX11_shifted_79 : List RI := [(.iload 7, 2, 0, 0, []), (.iload 6, 2, 0, 0, []), (.ishr, 1, 0, 0, []), (.i2l, 1, 0, 0, []), (.goto 9, 3, 0, 94, [])]
def KX11_shifted_88 : List RI := [(.iload 7, 2, 0, 0, []), (.iload 6, 2, 0, 0, []), (.iushr, 1, 0, 0, []), (.i2l, 1, 0, 0, [])]
def KX11_shifted_94 : List RI := [(.lreturn, 1, 0, 0, [])]
def KX11_shifted : RB := [(0, KX11_shifted_0), (5, KX11_shifted_5), (20, KX11_shifted_20), (27, KX11_shifted_27), (33, KX11_shifted_33), (40, KX11_shifted_40), (44, KX11_shifted_44), (45, KX11_shifted_45), (64, KX11_shifted_64), (73, KX11_shifted_73), (79, KX11_shifted_79), (88, KX11_shifted_88), (94, KX11_shifted_94)]
def rX11_shifted : CmC := (yX11_shifted, cX11_shifted, 8, (some .long), 4, 12, true)
theorem hX11_shifted : mtC[230]? = some rX11_shifted := rfl
set_option maxRecDepth 100000 in
theorem okX11_shifted : cokMC rX11_shifted KX11_shifted = true := cokMC_of [] (fun _ h => absurd h List.not_mem_nil) (by decide +kernel) (by decide +kernel)
def KX11_compared_0 : List RI := [(.iload_n 0, 1, 0, 0, []), (.tableswitch 95 25 29 #[35, 47, 59, 71, 83], 35, 0, 96, [(25, 36), (26, 48), (27, 60), (28, 72), (29, 84)])]
def KX11_compared_36 : List RI := [(.lload_n 1, 1, 0, 1, []), (.lload_n 3, 1, 0, 3, []), (.lcmp, 1, 0, 0, []), (.ifCond .ne 7, 3, 0, 46, [])]
def KX11_compared_42 : List RI := [(.iconst 1, 1, 0, 0, []), (.goto 4, 3, 0, 47, [])]
def KX11_compared_46 : List RI := [(.iconst 0, 1, 0, 0, [])]
def KX11_compared_47 : List RI := [(.ireturn, 1, 2, 0, [])]
def KX11_compared_48 : List RI := [(.lload_n 1, 1, 0, 1, []), (.lload_n 3, 1, 0, 3, []), (.lcmp, 1, 0, 0, []), (.ifCond .eq 7, 3, 0, 58, [])]
def KX11_compared_54 : List RI := [(.iconst 1, 1, 0, 0, []), (.goto 4, 3, 0, 59, [])]
def KX11_compared_58 : List RI := [(.iconst 0, 1, 0, 0, [])]
def KX11_compared_59 : List RI := [(.ireturn, 1, 2, 0, [])]
def KX11_compared_60 : List RI := [(.lload_n 1, 1, 0, 1, []), (.lload_n 3, 1, 0, 3, []), (.lcmp, 1, 0, 0, []), (.ifCond .ge 7, 3, 0, 70, [])]
def KX11_compared_66 : List RI := [(.iconst 1, 1, 0, 0, []), (.goto 4, 3, 0, 71, [])]
def KX11_compared_70 : List RI := [(.iconst 0, 1, 0, 0, [])]
def KX11_compared_71 : List RI := [(.ireturn, 1, 2, 0, [])]
def KX11_compared_72 : List RI := [(.lload_n 1, 1, 0, 1, []), (.lload_n 3, 1, 0, 3, []), (.lcmp, 1, 0, 0, []), (.ifCond .gt 7, 3, 0, 82, [])]
def KX11_compared_78 : List RI := [(.iconst 1, 1, 0, 0, []), (.goto 4, 3, 0, 83, [])]
def KX11_compared_82 : List RI := [(.iconst 0, 1, 0, 0, [])]
def KX11_compared_83 : List RI := [(.ireturn, 1, 2, 0, [])]
def KX11_compared_84 : List RI := [(.lload_n 1, 1, 0, 1, []), (.lload_n 3, 1, 0, 3, []), (.lcmp, 1, 0, 0, []), (.ifCond .le 7, 3, 0, 94, [])]
def KX11_compared_90 : List RI := [(.iconst 1, 1, 0, 0, []), (.goto 4, 3, 0, 95, [])]
def KX11_compared_94 : List RI := [(.iconst 0, 1, 0, 0, [])]
def KX11_compared_95 : List RI := [(.ireturn, 1, 2, 0, [])]
def KX11_compared_96 : List RI := [(.lload_n 1, 1, 0, 1, []), (.lload_n 3, 1, 0, 3, []), (.lcmp, 1, 0, 0, []), (.ifCond .lt 7, 3, 0, 106, [])]
def KX11_compared_102 : List RI := [(.iconst 1, 1, 0, 0, []), (.goto 4, 3, 0, 107, [])]
def KX11_compared_106 : List RI := [(.iconst 0, 1, 0, 0, [])]
def KX11_compared_107 : List RI := [(.ireturn, 1, 2, 0, [])]
def KX11_compared : RB := [(0, KX11_compared_0), (36, KX11_compared_36), (42, KX11_compared_42), (46, KX11_compared_46), (47, KX11_compared_47), (48, KX11_compared_48), (54, KX11_compared_54), (58, KX11_compared_58), (59, KX11_compared_59), (60, KX11_compared_60), (66, KX11_compared_66), (70, KX11_compared_70), (71, KX11_compared_71), (72, KX11_compared_72), (78, KX11_compared_78), (82, KX11_compared_82), (83, KX11_compared_83), (84, KX11_compared_84), (90, KX11_compared_90), (94, KX11_compared_94), (95, KX11_compared_95), (96, KX11_compared_96), (102, KX11_compared_102), (106, KX11_compared_106), (107, KX11_compared_107)]
def rX11_compared : CmC := (yX11_compared, cX11_compared, 5, (some .boolean), 3, 12, true)
theorem hX11_compared : mtC[231]? = some rX11_compared := rfl
set_option maxRecDepth 100000 in
theorem swX11_compared_1 : decode cX11_compared 1 = .ok (.tableswitch 95 25 29 #[35, 47, 59, 71, 83], 35) := by decide +kernel
set_option maxRecDepth 100000 in
theorem okX11_compared : cokMC rX11_compared KX11_compared = true := cokMC_of [(1, .tableswitch 95 25 29 #[35, 47, 59, 71, 83], 35)] (fun q hq => by
  obtain rfl := List.mem_singleton.mp hq
  exact swX11_compared_1) (by decide +kernel) (by decide +kernel)
def KX11_workedAlone_0 : List RI := [(.iload_n 0, 1, 0, 0, []), (.lookupswitch 52 #[(35, 35), (39, 48), (40, 42)], 35, 0, 53, [(35, 36), (39, 49), (40, 43)])]
def KX11_workedAlone_36 : List RI := [(.iload_n 1, 1, 0, 1, []), (.lload_n 2, 1, 0, 2, []), (.lneg, 1, 0, 0, []), (.invokestatic 216, 3, 2, 228, []), (.lreturn, 1, 0, 0, [])]
def KX11_workedAlone_43 : List RI := [(.lload_n 2, 1, 0, 2, []), (.ldc2_w 232, 3, (-1), 0, []), (.lxor, 1, 0, 0, []), (.lreturn, 1, 0, 0, [])]
def KX11_workedAlone_49 : List RI := [(.lload_n 2, 1, 0, 2, []), (.lconst 1, 1, 0, 0, []), (.lxor, 1, 0, 0, []), (.lreturn, 1, 0, 0, [])]
def KX11_workedAlone_53 : List RI := [(.lload_n 2, 1, 0, 2, []), (.lreturn, 1, 0, 0, [])]
def KX11_workedAlone : RB := [(0, KX11_workedAlone_0), (36, KX11_workedAlone_36), (43, KX11_workedAlone_43), (49, KX11_workedAlone_49), (53, KX11_workedAlone_53)]
def rX11_workedAlone : CmC := (yX11_workedAlone, cX11_workedAlone, 4, (some .long), 3, 12, true)
theorem hX11_workedAlone : mtC[232]? = some rX11_workedAlone := rfl
set_option maxRecDepth 100000 in
theorem swX11_workedAlone_1 : decode cX11_workedAlone 1 = .ok (.lookupswitch 52 #[(35, 35), (39, 48), (40, 42)], 35) := by decide +kernel
set_option maxRecDepth 100000 in
theorem okX11_workedAlone : cokMC rX11_workedAlone KX11_workedAlone = true := cokMC_of [(1, .lookupswitch 52 #[(35, 35), (39, 48), (40, 42)], 35)] (fun q hq => by
  obtain rfl := List.mem_singleton.mp hq
  exact swX11_workedAlone_1) (by decide +kernel) (by decide +kernel)

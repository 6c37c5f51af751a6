def KX7_readTry_0 : List RI := [(.aload_n 0, 1, 0, 0, []), (.bipush 68, 2, 0, 0, []), (.iload_n 1, 1, 0, 1, []), (.invokevirtual 161, 3, 2, 142, [(0, 0), (0, 0), (0, 0), (0, 0), (0, 0), (0, 0), (0, 0), (0, 0)]), (.astore_n 2, 1, 0, 2, []), (.aload_n 0, 1, 0, 0, []), (.getfield 96, 3, 0, 246, []), (.astore_n 3, 1, 0, 3, []), (.aload_n 0, 1, 0, 0, []), (.getfield 92, 3, 0, 245, []), (.lstore 4, 2, 0, 0, []), (.aload_n 0, 1, 0, 0, []), (.invokevirtual 57, 3, 0, 128, [(0, 0), (0, 0), (0, 0), (0, 0), (0, 0), (0, 0), (0, 0), (0, 0)]), (.aload_n 0, 1, 0, 0, []), (.aload_n 2, 1, 0, 2, []), (.putfield 96, 3, 0, 246, []), (.aload_n 2, 1, 0, 2, []), (.aload_n 0, 1, 0, 0, []), (.iload_n 1, 1, 0, 1, []), (.invokevirtual 104, 3, 1, 143, [(0, 0), (0, 0), (0, 0), (0, 0), (0, 0), (0, 0), (0, 0), (0, 0)]), (.putfield 211, 3, 0, 276, []), (.aload_n 0, 1, 0, 0, []), (.invokevirtual 38, 3, 0, 125, [(0, 0), (0, 0), (0, 0), (0, 0), (0, 0), (0, 0), (0, 0), (0, 0)]), (.bipush 69, 2, 0, 0, []), (.if_icmp .eq 17, 3, 0, 60, [])]
def KX7_readTry_46 : List RI := [(.aload_n 0, 1, 0, 0, []), (.invokevirtual 38, 3, 0, 125, [(0, 0), (0, 0), (0, 0), (0, 0), (0, 0), (0, 0), (0, 0), (0, 0)]), (.bipush 70, 2, 0, 0, []), (.if_icmp .eq 8, 3, 0, 60, [])]
def KX7_readTry_55 : List RI := [(.aload_n 0, 1, 0, 0, []), (.iconst 2, 1, 0, 0, []), (.invokevirtual 53, 3, 1, 127, [(0, 0), (0, 0), (0, 0), (0, 0), (0, 0), (0, 0), (0, 0), (0, 0)])]
def KX7_readTry_60 : List RI := [(.aload_n 0, 1, 0, 0, []), (.bipush 69, 2, 0, 0, []), (.invokevirtual 114, 3, 1, 130, [(0, 0), (0, 0), (0, 0), (0, 0), (0, 0), (0, 0), (0, 0), (0, 0)]), (.ifCond .eq 47, 3, 0, 113, [])]
def KX7_readTry_69 : List RI := [(.aload_n 0, 1, 0, 0, []), (.iconst 0, 1, 0, 0, []), (.invokevirtual 111, 3, 1, 129, [(0, 0), (0, 0), (0, 0), (0, 0), (0, 0), (0, 0), (0, 0), (0, 0)]), (.aload_n 2, 1, 0, 2, []), (.aload_n 0, 1, 0, 0, []), (.iconst 3, 1, 0, 0, []), (.iconst 0, 1, 0, 0, []), (.iconst 1, 1, 0, 0, []), (.invokevirtual 123, 3, 3, 137, [(0, 0), (0, 0), (0, 0), (0, 0), (0, 0), (0, 0), (0, 0), (0, 0)]), (.putfield 165, 3, 0, 280, []), (.aload_n 0, 1, 0, 0, []), (.aload_n 2, 1, 0, 2, []), (.getfield 165, 3, 0, 280, []), (.invokevirtual 127, 3, 1, 138, [(0, 0), (0, 0), (0, 0), (0, 0), (0, 0), (0, 0), (0, 0), (0, 0)]), (.aload_n 0, 1, 0, 0, []), (.iconst 1, 1, 0, 0, []), (.invokevirtual 111, 3, 1, 129, [(0, 0), (0, 0), (0, 0), (0, 0), (0, 0), (0, 0), (0, 0), (0, 0)]), (.aload_n 2, 1, 0, 2, []), (.aload_n 0, 1, 0, 0, []), (.iload_n 1, 1, 0, 1, []), (.invokevirtual 104, 3, 1, 143, [(0, 0), (0, 0), (0, 0), (0, 0), (0, 0), (0, 0), (0, 0), (0, 0)]), (.putfield 271, 3, 0, 277, []), (.aload_n 0, 1, 0, 0, []), (.lload 4, 2, 0, 0, []), (.putfield 92, 3, 0, 245, [])]
def KX7_readTry_113 : List RI := [(.aload_n 0, 1, 0, 0, []), (.bipush 70, 2, 0, 0, []), (.invokevirtual 114, 3, 1, 130, [(0, 0), (0, 0), (0, 0), (0, 0), (0, 0), (0, 0), (0, 0), (0, 0)]), (.ifCond .eq 12, 3, 0, 131, [])]
def KX7_readTry_122 : List RI := [(.aload_n 2, 1, 0, 2, []), (.aload_n 0, 1, 0, 0, []), (.iload_n 1, 1, 0, 1, []), (.invokevirtual 104, 3, 1, 143, [(0, 0), (0, 0), (0, 0), (0, 0), (0, 0), (0, 0), (0, 0), (0, 0)]), (.putfield 277, 3, 0, 278, [])]
def KX7_readTry_131 : List RI := [(.aload_n 0, 1, 0, 0, []), (.aload_n 3, 1, 0, 3, []), (.putfield 96, 3, 0, 246, []), (.aload_n 2, 1, 0, 2, []), (.areturn, 1, 0, 0, [])]
def KX7_readTry : RB := [(0, KX7_readTry_0), (46, KX7_readTry_46), (55, KX7_readTry_55), (60, KX7_readTry_60), (69, KX7_readTry_69), (113, KX7_readTry_113), (122, KX7_readTry_122), (131, KX7_readTry_131)]
def rX7_readTry : CmC := (yX7_readTry, cX7_readTry, 6, (some (.object "PlainJava$Statement")), 1, 8, false)
theorem hX7_readTry : mtC[160]? = some rX7_readTry := rfl
set_option maxRecDepth 100000 in
theorem okX7_readTry : cokMC rX7_readTry KX7_readTry = true := cokMC_of [] (fun _ h => absurd h List.not_mem_nil) (by decide +kernel) (by decide +kernel)
def KX7_put_0 : List RI := [(.aload_n 1, 1, 0, 1, []), (.aload_n 0, 1, 0, 0, []), (.getfield 9, 3, 0, 240, []), (.getfield 280, 3, 0, 213, []), (.invokevirtual 68, 3, 0, 234, []), (.putfield 283, 3, 0, 65, []), (.aload_n 1, 1, 0, 1, []), (.aload_n 0, 1, 0, 0, []), (.getfield 31, 3, 0, 242, []), (.iconst 1, 1, 0, 0, []), (.isub, 1, 0, 0, []), (.putfield 286, 3, 0, 64, []), (.aload_n 0, 1, 0, 0, []), (.getfield 9, 3, 0, 240, []), (.getfield 280, 3, 0, 213, []), (.aload_n 1, 1, 0, 1, []), (.invokevirtual 85, 3, 1, 236, []), (.pop, 1, 0, 0, []), (.aload_n 1, 1, 0, 1, []), (.areturn, 1, 0, 0, [])]
def KX7_put : RB := [(0, KX7_put_0)]
def rX7_put : CmC := (yX7_put, cX7_put, 2, (some (.object "PlainJava$Exp")), 1, 8, false)
theorem hX7_put : mtC[161]? = some rX7_put := rfl
set_option maxRecDepth 100000 in
theorem okX7_put : cokMC rX7_put KX7_put = true := cokMC_of [] (fun _ h => absurd h List.not_mem_nil) (by decide +kernel) (by decide +kernel)
def KX7_opened_0 : List RI := [(.new 178, 3, 0, 2, []), (.dup, 1, 0, 0, []), (.iload_n 1, 1, 0, 1, []), (.iload_n 2, 1, 0, 2, []), (.aload_n 0, 1, 0, 0, []), (.getfield 31, 3, 0, 242, []), (.aload_n 0, 1, 0, 0, []), (.getfield 9, 3, 0, 240, []), (.getfield 280, 3, 0, 213, []), (.invokevirtual 68, 3, 0, 234, []), (.invokespecial 186, 3, 4, 17, []), (.areturn, 1, 0, 0, [])]
def KX7_opened : RB := [(0, KX7_opened_0)]
def rX7_opened : CmC := (yX7_opened, cX7_opened, 3, (some (.object "PlainJava$Exp")), 2, 8, false)
theorem hX7_opened : mtC[162]? = some rX7_opened := rfl
set_option maxRecDepth 100000 in
theorem okX7_opened : cokMC rX7_opened KX7_opened = true := cokMC_of [] (fun _ h => absurd h List.not_mem_nil) (by decide +kernel) (by decide +kernel)
def KX7_putMark_0 : List RI := [(.aload_n 0, 1, 0, 0, []), (.aload_n 0, 1, 0, 0, []), (.iload_n 1, 1, 0, 1, []), (.iload_n 2, 1, 0, 2, []), (.invokevirtual 288, 3, 2, 162, [(0, 0), (0, 0), (0, 0), (0, 0), (0, 0), (0, 0), (0, 0), (0, 0)]), (.invokevirtual 193, 3, 1, 161, [(0, 0), (0, 0), (0, 0), (0, 0), (0, 0), (0, 0), (0, 0), (0, 0)]), (.areturn, 1, 0, 0, [])]
def KX7_putMark : RB := [(0, KX7_putMark_0)]
def rX7_putMark : CmC := (yX7_putMark, cX7_putMark, 3, (some (.object "PlainJava$Exp")), 2, 8, false)
theorem hX7_putMark : mtC[163]? = some rX7_putMark := rfl
set_option maxRecDepth 100000 in
theorem okX7_putMark : cokMC rX7_putMark KX7_putMark = true := cokMC_of [] (fun _ h => absurd h List.not_mem_nil) (by decide +kernel) (by decide +kernel)
def KX7_readExp_0 : List RI := [(.aload_n 0, 1, 0, 0, []), (.iload_n 1, 1, 0, 1, []), (.invokevirtual 212, 3, 1, 131, [(0, 0), (0, 0), (0, 0), (0, 0), (0, 0), (0, 0), (0, 0), (0, 0)]), (.ifCond .eq 10, 3, 0, 15, [])]
def KX7_readExp_8 : List RI := [(.aload_n 0, 1, 0, 0, []), (.iconst 1, 1, 0, 0, []), (.iconst (-1), 1, 0, 0, []), (.invokevirtual 288, 3, 2, 162, [(0, 0), (0, 0), (0, 0), (0, 0), (0, 0), (0, 0), (0, 0), (0, 0)]), (.areturn, 1, 0, 0, [])]
def KX7_readExp_15 : List RI := [(.aload_n 0, 1, 0, 0, []), (.invokevirtual 38, 3, 0, 125, [(0, 0), (0, 0), (0, 0), (0, 0), (0, 0), (0, 0), (0, 0), (0, 0)]), (.bipush 80, 2, 0, 0, []), (.if_icmp .ne 21, 3, 0, 42, [])]
def KX7_readExp_24 : List RI := [(.aload_n 0, 1, 0, 0, []), (.invokevirtual 255, 3, 0, 126, [(0, 0), (0, 0), (0, 0), (0, 0), (0, 0), (0, 0), (0, 0), (0, 0)]), (.invokestatic 292, 3, 1, 133, []), (.ifCond .eq 11, 3, 0, 42, [])]
def KX7_readExp_34 : List RI := [(.aload_n 0, 1, 0, 0, []), (.iload_n 1, 1, 0, 1, []), (.invokevirtual 295, 3, 1, 165, [(0, 0), (0, 0), (0, 0), (0, 0), (0, 0), (0, 0), (0, 0), (0, 0)]), (.goto 8, 3, 0, 47, [])]
def KX7_readExp_42 : List RI := [(.aload_n 0, 1, 0, 0, []), (.iload_n 1, 1, 0, 1, []), (.invokevirtual 298, 3, 1, 166, [(0, 0), (0, 0), (0, 0), (0, 0), (0, 0), (0, 0), (0, 0), (0, 0)])]
def KX7_readExp_47 : List RI := [(.areturn, 1, 0, 0, [])]
def KX7_readExp : RB := [(0, KX7_readExp_0), (8, KX7_readExp_8), (15, KX7_readExp_15), (24, KX7_readExp_24), (34, KX7_readExp_34), (42, KX7_readExp_42), (47, KX7_readExp_47)]
def rX7_readExp : CmC := (yX7_readExp, cX7_readExp, 2, (some (.object "PlainJava$Exp")), 1, 8, false)
theorem hX7_readExp : mtC[164]? = some rX7_readExp := rfl
set_option maxRecDepth 100000 in
theorem okX7_readExp : cokMC rX7_readExp KX7_readExp = true := cokMC_of [] (fun _ h => absurd h List.not_mem_nil) (by decide +kernel) (by decide +kernel)
def KX7_readAssignment_0 : List RI := [(.aload_n 0, 1, 0, 0, []), (.invokevirtual 255, 3, 0, 126, [(0, 0), (0, 0), (0, 0), (0, 0), (0, 0), (0, 0), (0, 0), (0, 0)]), (.istore_n 2, 1, 0, 2, []), (.aload_n 0, 1, 0, 0, []), (.bipush 9, 2, 0, 0, []), (.iload_n 2, 1, 0, 2, []), (.invokestatic 301, 3, 1, 226, []), (.invokevirtual 288, 3, 2, 162, [(0, 0), (0, 0), (0, 0), (0, 0), (0, 0), (0, 0), (0, 0), (0, 0)]), (.astore_n 3, 1, 0, 3, []), (.aload_n 3, 1, 0, 3, []), (.aload_n 0, 1, 0, 0, []), (.aload_n 0, 1, 0, 0, []), (.getfield 31, 3, 0, 242, []), (.invokevirtual 305, 3, 1, 140, [(0, 0), (0, 0), (0, 0), (0, 0), (0, 0), (0, 0), (0, 0), (0, 0)]), (.putfield 189, 3, 0, 67, []), (.iload_n 2, 1, 0, 2, []), (.bipush 8, 2, 0, 0, []), (.if_icmp .eq 25, 3, 0, 56, [])]
def KX7_readAssignment_34 : List RI := [(.aload_n 3, 1, 0, 3, []), (.aload_n 0, 1, 0, 0, []), (.bipush 14, 2, 0, 0, []), (.iload_n 2, 1, 0, 2, []), (.invokevirtual 308, 3, 2, 163, [(0, 0), (0, 0), (0, 0), (0, 0), (0, 0), (0, 0), (0, 0), (0, 0)]), (.putfield 311, 3, 0, 76, []), (.aload_n 3, 1, 0, 3, []), (.getfield 311, 3, 0, 76, []), (.aload_n 3, 1, 0, 3, []), (.getfield 189, 3, 0, 67, []), (.putfield 189, 3, 0, 67, [])]
def KX7_readAssignment_56 : List RI := [(.aload_n 0, 1, 0, 0, []), (.invokevirtual 57, 3, 0, 128, [(0, 0), (0, 0), (0, 0), (0, 0), (0, 0), (0, 0), (0, 0), (0, 0)]), (.aload_n 0, 1, 0, 0, []), (.invokevirtual 57, 3, 0, 128, [(0, 0), (0, 0), (0, 0), (0, 0), (0, 0), (0, 0), (0, 0), (0, 0)]), (.aload_n 3, 1, 0, 3, []), (.aload_n 0, 1, 0, 0, []), (.iload_n 1, 1, 0, 1, []), (.iconst 1, 1, 0, 0, []), (.iadd, 1, 0, 0, []), (.invokevirtual 170, 3, 1, 164, [(0, 0), (0, 0), (0, 0), (0, 0), (0, 0), (0, 0), (0, 0), (0, 0)]), (.putfield 314, 3, 0, 73, []), (.aload_n 0, 1, 0, 0, []), (.aload_n 3, 1, 0, 3, []), (.invokevirtual 193, 3, 1, 161, [(0, 0), (0, 0), (0, 0), (0, 0), (0, 0), (0, 0), (0, 0), (0, 0)]), (.areturn, 1, 0, 0, [])]
def KX7_readAssignment : RB := [(0, KX7_readAssignment_0), (34, KX7_readAssignment_34), (56, KX7_readAssignment_56)]
def rX7_readAssignment : CmC := (yX7_readAssignment, cX7_readAssignment, 4, (some (.object "PlainJava$Exp")), 1, 8, false)
theorem hX7_readAssignment : mtC[165]? = some rX7_readAssignment := rfl
set_option maxRecDepth 100000 in
theorem okX7_readAssignment : cokMC rX7_readAssignment KX7_readAssignment = true := cokMC_of [] (fun _ h => absurd h List.not_mem_nil) (by decide +kernel) (by decide +kernel)
def KX7_readChoice_0 : List RI := [(.aload_n 0, 1, 0, 0, []), (.getfield 31, 3, 0, 242, []), (.istore_n 2, 1, 0, 2, []), (.aload_n 0, 1, 0, 0, []), (.getfield 9, 3, 0, 240, []), (.getfield 280, 3, 0, 213, []), (.invokevirtual 68, 3, 0, 234, []), (.istore_n 3, 1, 0, 3, []), (.aload_n 0, 1, 0, 0, []), (.iload_n 1, 1, 0, 1, []), (.invokevirtual 317, 3, 1, 167, [(0, 0), (0, 0), (0, 0), (0, 0), (0, 0), (0, 0), (0, 0), (0, 0)]), (.astore 4, 2, 0, 0, []), (.aload_n 0, 1, 0, 0, []), (.invokevirtual 38, 3, 0, 125, [(0, 0), (0, 0), (0, 0), (0, 0), (0, 0), (0, 0), (0, 0), (0, 0)]), (.bipush 7, 2, 0, 0, []), (.if_icmp .eq 6, 3, 0, 35, [])]
def KX7_readChoice_32 : List RI := [(.aload 4, 2, 0, 0, []), (.areturn, 1, 0, 0, [])]
def KX7_readChoice_35 : List RI := [(.new 178, 3, 0, 2, []), (.dup, 1, 0, 0, []), (.bipush 8, 2, 0, 0, []), (.bipush 7, 2, 0, 0, []), (.iload_n 2, 1, 0, 2, []), (.iload_n 3, 1, 0, 3, []), (.invokespecial 186, 3, 4, 17, []), (.astore 5, 2, 0, 0, []), (.aload 5, 2, 0, 0, []), (.aload 4, 2, 0, 0, []), (.putfield 190, 3, 0, 72, []), (.aload_n 0, 1, 0, 0, []), (.bipush 12, 2, 0, 0, []), (.bipush 7, 2, 0, 0, []), (.invokevirtual 308, 3, 2, 163, [(0, 0), (0, 0), (0, 0), (0, 0), (0, 0), (0, 0), (0, 0), (0, 0)]), (.astore 6, 2, 0, 0, []), (.aload_n 0, 1, 0, 0, []), (.invokevirtual 57, 3, 0, 128, [(0, 0), (0, 0), (0, 0), (0, 0), (0, 0), (0, 0), (0, 0), (0, 0)]), (.aload 5, 2, 0, 0, []), (.aload_n 0, 1, 0, 0, []), (.iload_n 1, 1, 0, 1, []), (.iconst 1, 1, 0, 0, []), (.iadd, 1, 0, 0, []), (.invokevirtual 170, 3, 1, 164, [(0, 0), (0, 0), (0, 0), (0, 0), (0, 0), (0, 0), (0, 0), (0, 0)]), (.putfield 314, 3, 0, 73, []), (.aload 5, 2, 0, 0, []), (.aload_n 0, 1, 0, 0, []), (.bipush 13, 2, 0, 0, []), (.bipush 7, 2, 0, 0, []), (.invokevirtual 308, 3, 2, 163, [(0, 0), (0, 0), (0, 0), (0, 0), (0, 0), (0, 0), (0, 0), (0, 0)]), (.putfield 311, 3, 0, 76, []), (.aload 5, 2, 0, 0, []), (.getfield 311, 3, 0, 76, []), (.aload 6, 2, 0, 0, []), (.putfield 311, 3, 0, 76, []), (.aload_n 0, 1, 0, 0, []), (.bipush 6, 2, 0, 0, []), (.invokevirtual 111, 3, 1, 129, [(0, 0), (0, 0), (0, 0), (0, 0), (0, 0), (0, 0), (0, 0), (0, 0)]), (.aload 5, 2, 0, 0, []), (.aload_n 0, 1, 0, 0, []), (.iload_n 1, 1, 0, 1, []), (.iconst 1, 1, 0, 0, []), (.iadd, 1, 0, 0, []), (.invokevirtual 212, 3, 1, 131, [(0, 0), (0, 0), (0, 0), (0, 0), (0, 0), (0, 0), (0, 0), (0, 0)]), (.ifCond .eq 12, 3, 0, 133, [])]
def KX7_readChoice_124 : List RI := [(.aload_n 0, 1, 0, 0, []), (.iconst 1, 1, 0, 0, []), (.iconst (-1), 1, 0, 0, []), (.invokevirtual 288, 3, 2, 162, [(0, 0), (0, 0), (0, 0), (0, 0), (0, 0), (0, 0), (0, 0), (0, 0)]), (.goto 10, 3, 0, 140, [])]
def KX7_readChoice_133 : List RI := [(.aload_n 0, 1, 0, 0, []), (.iload_n 1, 1, 0, 1, []), (.iconst 1, 1, 0, 0, []), (.iadd, 1, 0, 0, []), (.invokevirtual 298, 3, 1, 166, [(0, 0), (0, 0), (0, 0), (0, 0), (0, 0), (0, 0), (0, 0), (0, 0)])]
def KX7_readChoice_140 : List RI := [(.putfield 320, 3, 0, 74, []), (.aload_n 0, 1, 0, 0, []), (.aload 5, 2, 0, 0, []), (.invokevirtual 193, 3, 1, 161, [(0, 0), (0, 0), (0, 0), (0, 0), (0, 0), (0, 0), (0, 0), (0, 0)]), (.areturn, 1, 0, 0, [])]
def KX7_readChoice : RB := [(0, KX7_readChoice_0), (32, KX7_readChoice_32), (35, KX7_readChoice_35), (124, KX7_readChoice_124), (133, KX7_readChoice_133), (140, KX7_readChoice_140)]
def rX7_readChoice : CmC := (yX7_readChoice, cX7_readChoice, 7, (some (.object "PlainJava$Exp")), 1, 8, false)
theorem hX7_readChoice : mtC[166]? = some rX7_readChoice := rfl
set_option maxRecDepth 100000 in
theorem okX7_readChoice : cokMC rX7_readChoice KX7_readChoice = true := cokMC_of [] (fun _ h => absurd h List.not_mem_nil) (by decide +kernel) (by decide +kernel)
def KX7_readChain_0 : List RI := [(.aload_n 0, 1, 0, 0, []), (.iload_n 1, 1, 0, 1, []), (.invokevirtual 323, 3, 1, 170, [(0, 0), (0, 0), (0, 0), (0, 0), (0, 0), (0, 0), (0, 0), (0, 0)]), (.astore_n 2, 1, 0, 2, []), (.aconst_null, 1, 0, 0, []), (.astore_n 3, 1, 0, 3, []), (.iconst 0, 1, 0, 0, []), (.istore 4, 2, 0, 0, [])]
def KX7_readChain_11 : List RI := [(.iload 4, 2, 0, 0, []), (.sipush 500, 3, 0, 0, []), (.if_icmp .gt 82, 3, 0, 98, [])]
def KX7_readChain_19 : List RI := [(.aload_n 0, 1, 0, 0, []), (.invokevirtual 38, 3, 0, 125, [(0, 0), (0, 0), (0, 0), (0, 0), (0, 0), (0, 0), (0, 0), (0, 0)]), (.invokestatic 326, 3, 1, 225, []), (.ifCond .le 72, 3, 0, 98, [])]
def KX7_readChain_29 : List RI := [(.aload_n 0, 1, 0, 0, []), (.invokevirtual 38, 3, 0, 125, [(0, 0), (0, 0), (0, 0), (0, 0), (0, 0), (0, 0), (0, 0), (0, 0)]), (.istore 5, 2, 0, 0, [])]
def KX7_readChain_35 : List RI := [(.aload_n 3, 1, 0, 3, []), (.ifnull 37, 3, 0, 73, [])]
def KX7_readChain_39 : List RI := [(.aload_n 3, 1, 0, 3, []), (.getfield 329, 3, 0, 61, []), (.invokestatic 326, 3, 1, 225, []), (.iload 5, 2, 0, 0, []), (.invokestatic 326, 3, 1, 225, []), (.if_icmp .lt 22, 3, 0, 73, [])]
def KX7_readChain_54 : List RI := [(.aload_n 3, 1, 0, 3, []), (.getfield 332, 3, 0, 75, []), (.astore 6, 2, 0, 0, []), (.aload_n 0, 1, 0, 0, []), (.aload_n 3, 1, 0, 3, []), (.aload_n 2, 1, 0, 2, []), (.invokevirtual 334, 3, 2, 169, [(0, 0), (0, 0), (0, 0), (0, 0), (0, 0), (0, 0), (0, 0), (0, 0)]), (.astore_n 2, 1, 0, 2, []), (.aload 6, 2, 0, 0, []), (.astore_n 3, 1, 0, 3, []), (.goto (-35), 3, 0, 35, [])]
def KX7_readChain_73 : List RI := [(.aload_n 0, 1, 0, 0, []), (.iload 5, 2, 0, 0, []), (.aload_n 2, 1, 0, 2, []), (.aload_n 3, 1, 0, 3, []), (.invokevirtual 338, 3, 3, 168, [(0, 0), (0, 0), (0, 0), (0, 0), (0, 0), (0, 0), (0, 0), (0, 0)]), (.astore_n 3, 1, 0, 3, []), (.aload_n 0, 1, 0, 0, []), (.invokevirtual 57, 3, 0, 128, [(0, 0), (0, 0), (0, 0), (0, 0), (0, 0), (0, 0), (0, 0), (0, 0)]), (.aload_n 0, 1, 0, 0, []), (.iload_n 1, 1, 0, 1, []), (.invokevirtual 323, 3, 1, 170, [(0, 0), (0, 0), (0, 0), (0, 0), (0, 0), (0, 0), (0, 0), (0, 0)]), (.astore_n 2, 1, 0, 2, []), (.iinc 4 1, 3, 0, 0, []), (.goto (-84), 3, 0, 11, [])]
def KX7_readChain_98 : List RI := [(.aload_n 3, 1, 0, 3, []), (.ifnull 22, 3, 0, 121, [])]
def KX7_readChain_102 : List RI := [(.aload_n 3, 1, 0, 3, []), (.getfield 332, 3, 0, 75, []), (.astore 4, 2, 0, 0, []), (.aload_n 0, 1, 0, 0, []), (.aload_n 3, 1, 0, 3, []), (.aload_n 2, 1, 0, 2, []), (.invokevirtual 334, 3, 2, 169, [(0, 0), (0, 0), (0, 0), (0, 0), (0, 0), (0, 0), (0, 0), (0, 0)]), (.astore_n 2, 1, 0, 2, []), (.aload 4, 2, 0, 0, []), (.astore_n 3, 1, 0, 3, []), (.goto (-20), 3, 0, 98, [])]
def KX7_readChain_121 : List RI := [(.aload_n 2, 1, 0, 2, []), (.areturn, 1, 0, 0, [])]
def KX7_readChain : RB := [(0, KX7_readChain_0), (11, KX7_readChain_11), (19, KX7_readChain_19), (29, KX7_readChain_29), (35, KX7_readChain_35), (39, KX7_readChain_39), (54, KX7_readChain_54), (73, KX7_readChain_73), (98, KX7_readChain_98), (102, KX7_readChain_102), (121, KX7_readChain_121)]
def rX7_readChain : CmC := (yX7_readChain, cX7_readChain, 7, (some (.object "PlainJava$Exp")), 1, 8, false)
theorem hX7_readChain : mtC[167]? = some rX7_readChain := rfl
set_option maxRecDepth 100000 in
theorem okX7_readChain : cokMC rX7_readChain KX7_readChain = true := cokMC_of [] (fun _ h => absurd h List.not_mem_nil) (by decide +kernel) (by decide +kernel)
def KX7_waitingFor_0 : List RI := [(.new 178, 3, 0, 2, []), (.dup, 1, 0, 0, []), (.bipush 7, 2, 0, 0, []), (.iload_n 1, 1, 0, 1, []), (.aload_n 2, 1, 0, 2, []), (.getfield 342, 3, 0, 62, []), (.aload_n 2, 1, 0, 2, []), (.getfield 183, 3, 0, 63, []), (.invokespecial 186, 3, 4, 17, []), (.astore 4, 2, 0, 0, []), (.aload 4, 2, 0, 0, []), (.aload_n 2, 1, 0, 2, []), (.putfield 190, 3, 0, 72, []), (.aload 4, 2, 0, 0, []), (.aload_n 3, 1, 0, 3, []), (.putfield 332, 3, 0, 75, []), (.iload_n 1, 1, 0, 1, []), (.bipush 21, 2, 0, 0, []), (.if_icmp .eq 9, 3, 0, 44, [])]
def KX7_waitingFor_38 : List RI := [(.iload_n 1, 1, 0, 1, []), (.bipush 20, 2, 0, 0, []), (.if_icmp .ne 15, 3, 0, 56, [])]
def KX7_waitingFor_44 : List RI := [(.aload 4, 2, 0, 0, []), (.aload_n 0, 1, 0, 0, []), (.bipush 11, 2, 0, 0, []), (.iload_n 1, 1, 0, 1, []), (.invokevirtual 308, 3, 2, 163, [(0, 0), (0, 0), (0, 0), (0, 0), (0, 0), (0, 0), (0, 0), (0, 0)]), (.putfield 311, 3, 0, 76, [])]
def KX7_waitingFor_56 : List RI := [(.aload 4, 2, 0, 0, []), (.areturn, 1, 0, 0, [])]
def KX7_waitingFor : RB := [(0, KX7_waitingFor_0), (38, KX7_waitingFor_38), (44, KX7_waitingFor_44), (56, KX7_waitingFor_56)]
def rX7_waitingFor : CmC := (yX7_waitingFor, cX7_waitingFor, 5, (some (.object "PlainJava$Exp")), 3, 8, false)
theorem hX7_waitingFor : mtC[168]? = some rX7_waitingFor := rfl
set_option maxRecDepth 100000 in
theorem okX7_waitingFor : cokMC rX7_waitingFor KX7_waitingFor = true := cokMC_of [] (fun _ h => absurd h List.not_mem_nil) (by decide +kernel) (by decide +kernel)
def KX7_closed_0 : List RI := [(.aload_n 1, 1, 0, 1, []), (.aload_n 2, 1, 0, 2, []), (.putfield 314, 3, 0, 73, []), (.aload_n 1, 1, 0, 1, []), (.aconst_null, 1, 0, 0, []), (.putfield 332, 3, 0, 75, []), (.aload_n 0, 1, 0, 0, []), (.aload_n 1, 1, 0, 1, []), (.invokevirtual 193, 3, 1, 161, [(0, 0), (0, 0), (0, 0), (0, 0), (0, 0), (0, 0), (0, 0), (0, 0)]), (.areturn, 1, 0, 0, [])]
def KX7_closed : RB := [(0, KX7_closed_0)]
def rX7_closed : CmC := (yX7_closed, cX7_closed, 3, (some (.object "PlainJava$Exp")), 2, 8, false)
theorem hX7_closed : mtC[169]? = some rX7_closed := rfl
set_option maxRecDepth 100000 in
theorem okX7_closed : cokMC rX7_closed KX7_closed = true := cokMC_of [] (fun _ h => absurd h List.not_mem_nil) (by decide +kernel) (by decide +kernel)
def KX7_readOperand_0 : List RI := [(.aload_n 0, 1, 0, 0, []), (.invokevirtual 38, 3, 0, 125, [(0, 0), (0, 0), (0, 0), (0, 0), (0, 0), (0, 0), (0, 0), (0, 0)]), (.lookupswitch 144 #[(0, 127), (34, 116), (35, 116), (39, 116), (40, 116), (41, 122), (42, 122), (72, 139), (73, 139), (80, 133), (81, 139), (82, 139), (83, 139)], 116, 0, 148, [(0, 131), (34, 120), (35, 120), (39, 120), (40, 120), (41, 126), (42, 126), (72, 143), (73, 143), (80, 137), (81, 143), (82, 143), (83, 143)])]
def KX7_readOperand_120 : List RI := [(.aload_n 0, 1, 0, 0, []), (.iload_n 1, 1, 0, 1, []), (.invokevirtual 343, 3, 1, 172, [(0, 0), (0, 0), (0, 0), (0, 0), (0, 0), (0, 0), (0, 0), (0, 0)]), (.areturn, 1, 0, 0, [])]
def KX7_readOperand_126 : List RI := [(.aload_n 0, 1, 0, 0, []), (.invokevirtual 346, 3, 0, 173, [(0, 0), (0, 0), (0, 0), (0, 0), (0, 0), (0, 0), (0, 0), (0, 0)]), (.areturn, 1, 0, 0, [])]
def KX7_readOperand_131 : List RI := [(.aload_n 0, 1, 0, 0, []), (.iload_n 1, 1, 0, 1, []), (.invokevirtual 350, 3, 1, 174, [(0, 0), (0, 0), (0, 0), (0, 0), (0, 0), (0, 0), (0, 0), (0, 0)]), (.areturn, 1, 0, 0, [])]
def KX7_readOperand_137 : List RI := [(.aload_n 0, 1, 0, 0, []), (.iload_n 1, 1, 0, 1, []), (.invokevirtual 353, 3, 1, 175, [(0, 0), (0, 0), (0, 0), (0, 0), (0, 0), (0, 0), (0, 0), (0, 0)]), (.areturn, 1, 0, 0, [])]
def KX7_readOperand_143 : List RI := [(.aload_n 0, 1, 0, 0, []), (.invokevirtual 356, 3, 0, 177, [(0, 0), (0, 0), (0, 0), (0, 0), (0, 0), (0, 0), (0, 0), (0, 0)]), (.areturn, 1, 0, 0, [])]
def KX7_readOperand_148 : List RI := [(.aload_n 0, 1, 0, 0, []), (.iconst 2, 1, 0, 0, []), (.invokevirtual 53, 3, 1, 127, [(0, 0), (0, 0), (0, 0), (0, 0), (0, 0), (0, 0), (0, 0), (0, 0)]), (.aload_n 0, 1, 0, 0, []), (.iconst 1, 1, 0, 0, []), (.iconst (-1), 1, 0, 0, []), (.invokevirtual 288, 3, 2, 162, [(0, 0), (0, 0), (0, 0), (0, 0), (0, 0), (0, 0), (0, 0), (0, 0)]), (.areturn, 1, 0, 0, [])]
def KX7_readOperand : RB := [(0, KX7_readOperand_0), (120, KX7_readOperand_120), (126, KX7_readOperand_126), (131, KX7_readOperand_131), (137, KX7_readOperand_137), (143, KX7_readOperand_143), (148, KX7_readOperand_148)]
def rX7_readOperand : CmC := (yX7_readOperand, cX7_readOperand, 2, (some (.object "PlainJava$Exp")), 1, 8, false)
theorem hX7_readOperand : mtC[170]? = some rX7_readOperand := rfl
set_option maxRecDepth 100000 in
theorem swX7_readOperand_4 : decode cX7_readOperand 4 = .ok (.lookupswitch 144 #[(0, 127), (34, 116), (35, 116), (39, 116), (40, 116), (41, 122), (42, 122), (72, 139), (73, 139), (80, 133), (81, 139), (82, 139), (83, 139)], 116) := by decide +kernel
set_option maxRecDepth 100000 in
theorem okX7_readOperand : cokMC rX7_readOperand KX7_readOperand = true := cokMC_of [(4, .lookupswitch 144 #[(0, 127), (34, 116), (35, 116), (39, 116), (40, 116), (41, 122), (42, 122), (72, 139), (73, 139), (80, 133), (81, 139), (82, 139), (83, 139)], 116)] (fun q hq => by
  obtain rfl := List.mem_singleton.mp hq
  exact swX7_readOperand_4) (by decide +kernel) (by decide +kernel)
def KX7_readInnerOperand_0 : List RI := [(.aload_n 0, 1, 0, 0, []), (.iload_n 1, 1, 0, 1, []), (.invokevirtual 212, 3, 1, 131, [(0, 0), (0, 0), (0, 0), (0, 0), (0, 0), (0, 0), (0, 0), (0, 0)]), (.ifCond .eq 12, 3, 0, 17, [])]
def KX7_readInnerOperand_8 : List RI := [(.aload_n 0, 1, 0, 0, []), (.iconst 1, 1, 0, 0, []), (.iconst (-1), 1, 0, 0, []), (.invokevirtual 288, 3, 2, 162, [(0, 0), (0, 0), (0, 0), (0, 0), (0, 0), (0, 0), (0, 0), (0, 0)]), (.goto 8, 3, 0, 22, [])]
def KX7_readInnerOperand_17 : List RI := [(.aload_n 0, 1, 0, 0, []), (.iload_n 1, 1, 0, 1, []), (.invokevirtual 323, 3, 1, 170, [(0, 0), (0, 0), (0, 0), (0, 0), (0, 0), (0, 0), (0, 0), (0, 0)])]
def KX7_readInnerOperand_22 : List RI := [(.areturn, 1, 0, 0, [])]
def KX7_readInnerOperand : RB := [(0, KX7_readInnerOperand_0), (8, KX7_readInnerOperand_8), (17, KX7_readInnerOperand_17), (22, KX7_readInnerOperand_22)]
def rX7_readInnerOperand : CmC := (yX7_readInnerOperand, cX7_readInnerOperand, 2, (some (.object "PlainJava$Exp")), 1, 8, false)
theorem hX7_readInnerOperand : mtC[171]? = some rX7_readInnerOperand := rfl
set_option maxRecDepth 100000 in
theorem okX7_readInnerOperand : cokMC rX7_readInnerOperand KX7_readInnerOperand = true := cokMC_of [] (fun _ h => absurd h List.not_mem_nil) (by decide +kernel) (by decide +kernel)
def KX7_readAlone_0 : List RI := [(.aload_n 0, 1, 0, 0, []), (.iconst 4, 1, 0, 0, []), (.aload_n 0, 1, 0, 0, []), (.invokevirtual 38, 3, 0, 125, [(0, 0), (0, 0), (0, 0), (0, 0), (0, 0), (0, 0), (0, 0), (0, 0)]), (.invokevirtual 288, 3, 2, 162, [(0, 0), (0, 0), (0, 0), (0, 0), (0, 0), (0, 0), (0, 0), (0, 0)]), (.astore_n 2, 1, 0, 2, []), (.aload_n 0, 1, 0, 0, []), (.invokevirtual 57, 3, 0, 128, [(0, 0), (0, 0), (0, 0), (0, 0), (0, 0), (0, 0), (0, 0), (0, 0)]), (.aload_n 2, 1, 0, 2, []), (.aload_n 0, 1, 0, 0, []), (.iload_n 1, 1, 0, 1, []), (.iconst 1, 1, 0, 0, []), (.iadd, 1, 0, 0, []), (.invokevirtual 359, 3, 1, 171, [(0, 0), (0, 0), (0, 0), (0, 0), (0, 0), (0, 0), (0, 0), (0, 0)]), (.putfield 190, 3, 0, 72, []), (.aload_n 2, 1, 0, 2, []), (.getfield 329, 3, 0, 61, []), (.bipush 35, 2, 0, 0, []), (.if_icmp .ne 21, 3, 0, 52, [])]
def KX7_readAlone_34 : List RI := [(.aload_n 2, 1, 0, 2, []), (.getfield 190, 3, 0, 72, []), (.getfield 362, 3, 0, 60, []), (.ifCond .ne 11, 3, 0, 52, [])]
def KX7_readAlone_44 : List RI := [(.aload_n 2, 1, 0, 2, []), (.getfield 190, 3, 0, 72, []), (.iconst 1, 1, 0, 0, []), (.putfield 189, 3, 0, 67, [])]
def KX7_readAlone_52 : List RI := [(.aload_n 0, 1, 0, 0, []), (.aload_n 2, 1, 0, 2, []), (.invokevirtual 193, 3, 1, 161, [(0, 0), (0, 0), (0, 0), (0, 0), (0, 0), (0, 0), (0, 0), (0, 0)]), (.areturn, 1, 0, 0, [])]
def KX7_readAlone : RB := [(0, KX7_readAlone_0), (34, KX7_readAlone_34), (44, KX7_readAlone_44), (52, KX7_readAlone_52)]
def rX7_readAlone : CmC := (yX7_readAlone, cX7_readAlone, 3, (some (.object "PlainJava$Exp")), 1, 8, false)
theorem hX7_readAlone : mtC[172]? = some rX7_readAlone := rfl
set_option maxRecDepth 100000 in
theorem okX7_readAlone : cokMC rX7_readAlone KX7_readAlone = true := cokMC_of [] (fun _ h => absurd h List.not_mem_nil) (by decide +kernel) (by decide +kernel)
def KX7_readCountAhead_0 : List RI := [(.aload_n 0, 1, 0, 0, []), (.bipush 6, 2, 0, 0, []), (.aload_n 0, 1, 0, 0, []), (.invokevirtual 38, 3, 0, 125, [(0, 0), (0, 0), (0, 0), (0, 0), (0, 0), (0, 0), (0, 0), (0, 0)]), (.invokevirtual 288, 3, 2, 162, [(0, 0), (0, 0), (0, 0), (0, 0), (0, 0), (0, 0), (0, 0), (0, 0)]), (.astore_n 1, 1, 0, 1, []), (.aload_n 0, 1, 0, 0, []), (.invokevirtual 57, 3, 0, 128, [(0, 0), (0, 0), (0, 0), (0, 0), (0, 0), (0, 0), (0, 0), (0, 0)]), (.aload_n 1, 1, 0, 1, []), (.aload_n 0, 1, 0, 0, []), (.getfield 31, 3, 0, 242, []), (.putfield 363, 3, 0, 66, []), (.aload_n 1, 1, 0, 1, []), (.aload_n 0, 1, 0, 0, []), (.invokevirtual 38, 3, 0, 125, [(0, 0), (0, 0), (0, 0), (0, 0), (0, 0), (0, 0), (0, 0), (0, 0)]), (.bipush 80, 2, 0, 0, []), (.if_icmp .ne 14, 3, 0, 44, [])]
def KX7_readCountAhead_33 : List RI := [(.aload_n 0, 1, 0, 0, []), (.aload_n 0, 1, 0, 0, []), (.getfield 31, 3, 0, 242, []), (.invokevirtual 305, 3, 1, 140, [(0, 0), (0, 0), (0, 0), (0, 0), (0, 0), (0, 0), (0, 0), (0, 0)]), (.goto 4, 3, 0, 45, [])]
def KX7_readCountAhead_44 : List RI := [(.iconst (-1), 1, 0, 0, [])]
def KX7_readCountAhead_45 : List RI := [(.putfield 189, 3, 0, 67, []), (.aload_n 0, 1, 0, 0, []), (.bipush 80, 2, 0, 0, []), (.invokevirtual 111, 3, 1, 129, [(0, 0), (0, 0), (0, 0), (0, 0), (0, 0), (0, 0), (0, 0), (0, 0)]), (.aload_n 0, 1, 0, 0, []), (.aload_n 1, 1, 0, 1, []), (.invokevirtual 193, 3, 1, 161, [(0, 0), (0, 0), (0, 0), (0, 0), (0, 0), (0, 0), (0, 0), (0, 0)]), (.areturn, 1, 0, 0, [])]
def KX7_readCountAhead : RB := [(0, KX7_readCountAhead_0), (33, KX7_readCountAhead_33), (44, KX7_readCountAhead_44), (45, KX7_readCountAhead_45)]
def rX7_readCountAhead : CmC := (yX7_readCountAhead, cX7_readCountAhead, 2, (some (.object "PlainJava$Exp")), 0, 8, false)
theorem hX7_readCountAhead : mtC[173]? = some rX7_readCountAhead := rfl
set_option maxRecDepth 100000 in
theorem okX7_readCountAhead : cokMC rX7_readCountAhead KX7_readCountAhead = true := cokMC_of [] (fun _ h => absurd h List.not_mem_nil) (by decide +kernel) (by decide +kernel)
def KX7_readBehindOpen_0 : List RI := [(.aload_n 0, 1, 0, 0, []), (.getfield 31, 3, 0, 242, []), (.istore_n 2, 1, 0, 2, []), (.aload_n 0, 1, 0, 0, []), (.getfield 9, 3, 0, 240, []), (.getfield 280, 3, 0, 213, []), (.invokevirtual 68, 3, 0, 234, []), (.istore_n 3, 1, 0, 3, []), (.aload_n 0, 1, 0, 0, []), (.invokevirtual 57, 3, 0, 128, [(0, 0), (0, 0), (0, 0), (0, 0), (0, 0), (0, 0), (0, 0), (0, 0)]), (.aload_n 0, 1, 0, 0, []), (.invokevirtual 38, 3, 0, 125, [(0, 0), (0, 0), (0, 0), (0, 0), (0, 0), (0, 0), (0, 0), (0, 0)]), (.invokestatic 60, 3, 1, 132, []), (.ifCond .eq 49, 3, 0, 76, [])]
def KX7_readBehindOpen_30 : List RI := [(.new 178, 3, 0, 2, []), (.dup, 1, 0, 0, []), (.iconst 5, 1, 0, 0, []), (.iconst 0, 1, 0, 0, []), (.iload_n 2, 1, 0, 2, []), (.iload_n 3, 1, 0, 3, []), (.invokespecial 186, 3, 4, 17, []), (.astore 4, 2, 0, 0, []), (.aload 4, 2, 0, 0, []), (.aload_n 0, 1, 0, 0, []), (.invokevirtual 117, 3, 0, 136, [(0, 0), (0, 0), (0, 0), (0, 0), (0, 0), (0, 0), (0, 0), (0, 0)]), (.putfield 364, 3, 0, 69, []), (.aload_n 0, 1, 0, 0, []), (.iconst 1, 1, 0, 0, []), (.invokevirtual 111, 3, 1, 129, [(0, 0), (0, 0), (0, 0), (0, 0), (0, 0), (0, 0), (0, 0), (0, 0)]), (.aload 4, 2, 0, 0, []), (.aload_n 0, 1, 0, 0, []), (.iload_n 1, 1, 0, 1, []), (.iconst 1, 1, 0, 0, []), (.iadd, 1, 0, 0, []), (.invokevirtual 359, 3, 1, 171, [(0, 0), (0, 0), (0, 0), (0, 0), (0, 0), (0, 0), (0, 0), (0, 0)]), (.putfield 190, 3, 0, 72, []), (.aload_n 0, 1, 0, 0, []), (.aload 4, 2, 0, 0, []), (.invokevirtual 193, 3, 1, 161, [(0, 0), (0, 0), (0, 0), (0, 0), (0, 0), (0, 0), (0, 0), (0, 0)]), (.areturn, 1, 0, 0, [])]
def KX7_readBehindOpen_76 : List RI := [(.new 178, 3, 0, 2, []), (.dup, 1, 0, 0, []), (.iconst 3, 1, 0, 0, []), (.iconst 0, 1, 0, 0, []), (.iload_n 2, 1, 0, 2, []), (.iload_n 3, 1, 0, 3, []), (.invokespecial 186, 3, 4, 17, []), (.astore 4, 2, 0, 0, []), (.aload 4, 2, 0, 0, []), (.aload_n 0, 1, 0, 0, []), (.iload_n 1, 1, 0, 1, []), (.iconst 1, 1, 0, 0, []), (.iadd, 1, 0, 0, []), (.invokevirtual 170, 3, 1, 164, [(0, 0), (0, 0), (0, 0), (0, 0), (0, 0), (0, 0), (0, 0), (0, 0)]), (.putfield 190, 3, 0, 72, []), (.aload_n 0, 1, 0, 0, []), (.iconst 1, 1, 0, 0, []), (.invokevirtual 111, 3, 1, 129, [(0, 0), (0, 0), (0, 0), (0, 0), (0, 0), (0, 0), (0, 0), (0, 0)]), (.aload_n 0, 1, 0, 0, []), (.aload 4, 2, 0, 0, []), (.invokevirtual 193, 3, 1, 161, [(0, 0), (0, 0), (0, 0), (0, 0), (0, 0), (0, 0), (0, 0), (0, 0)]), (.areturn, 1, 0, 0, [])]
def KX7_readBehindOpen : RB := [(0, KX7_readBehindOpen_0), (30, KX7_readBehindOpen_30), (76, KX7_readBehindOpen_76)]
def rX7_readBehindOpen : CmC := (yX7_readBehindOpen, cX7_readBehindOpen, 5, (some (.object "PlainJava$Exp")), 1, 8, false)
theorem hX7_readBehindOpen : mtC[174]? = some rX7_readBehindOpen := rfl
set_option maxRecDepth 100000 in
theorem okX7_readBehindOpen : cokMC rX7_readBehindOpen KX7_readBehindOpen = true := cokMC_of [] (fun _ h => absurd h List.not_mem_nil) (by decide +kernel) (by decide +kernel)
def KX7_readName_0 : List RI := [(.aload_n 0, 1, 0, 0, []), (.invokevirtual 255, 3, 0, 126, [(0, 0), (0, 0), (0, 0), (0, 0), (0, 0), (0, 0), (0, 0), (0, 0)]), (.istore_n 2, 1, 0, 2, []), (.iload_n 2, 1, 0, 2, []), (.ifCond .ne 9, 3, 0, 15, [])]
def KX7_readName_9 : List RI := [(.aload_n 0, 1, 0, 0, []), (.iload_n 1, 1, 0, 1, []), (.invokevirtual 367, 3, 1, 176, [(0, 0), (0, 0), (0, 0), (0, 0), (0, 0), (0, 0), (0, 0), (0, 0)]), (.areturn, 1, 0, 0, [])]
def KX7_readName_15 : List RI := [(.iload_n 2, 1, 0, 2, []), (.bipush 41, 2, 0, 0, []), (.if_icmp .eq 9, 3, 0, 27, [])]
def KX7_readName_21 : List RI := [(.iload_n 2, 1, 0, 2, []), (.bipush 42, 2, 0, 0, []), (.if_icmp .ne 7, 3, 0, 31, [])]
def KX7_readName_27 : List RI := [(.iconst 1, 1, 0, 0, []), (.goto 4, 3, 0, 32, [])]
def KX7_readName_31 : List RI := [(.iconst 0, 1, 0, 0, [])]
def KX7_readName_32 : List RI := [(.istore_n 3, 1, 0, 3, []), (.aload_n 0, 1, 0, 0, []), (.iload_n 3, 1, 0, 3, []), (.ifCond .eq 8, 3, 0, 43, [])]
def KX7_readName_38 : List RI := [(.bipush 6, 2, 0, 0, []), (.goto 4, 3, 0, 44, [])]
def KX7_readName_43 : List RI := [(.iconst 2, 1, 0, 0, [])]
def KX7_readName_44 : List RI := [(.iload_n 3, 1, 0, 3, []), (.ifCond .eq 7, 3, 0, 52, [])]
def KX7_readName_48 : List RI := [(.iload_n 2, 1, 0, 2, []), (.goto 4, 3, 0, 53, [])]
def KX7_readName_52 : List RI := [(.iconst (-1), 1, 0, 0, [])]
def KX7_readName_53 : List RI := [(.invokevirtual 288, 3, 2, 162, [(0, 0), (0, 0), (0, 0), (0, 0), (0, 0), (0, 0), (0, 0), (0, 0)]), (.astore 4, 2, 0, 0, []), (.aload 4, 2, 0, 0, []), (.aload_n 0, 1, 0, 0, []), (.aload_n 0, 1, 0, 0, []), (.getfield 31, 3, 0, 242, []), (.invokevirtual 305, 3, 1, 140, [(0, 0), (0, 0), (0, 0), (0, 0), (0, 0), (0, 0), (0, 0), (0, 0)]), (.putfield 189, 3, 0, 67, []), (.aload_n 0, 1, 0, 0, []), (.invokevirtual 57, 3, 0, 128, [(0, 0), (0, 0), (0, 0), (0, 0), (0, 0), (0, 0), (0, 0), (0, 0)]), (.iload_n 3, 1, 0, 3, []), (.ifCond .eq 7, 3, 0, 83, [])]
def KX7_readName_79 : List RI := [(.aload_n 0, 1, 0, 0, []), (.invokevirtual 57, 3, 0, 128, [(0, 0), (0, 0), (0, 0), (0, 0), (0, 0), (0, 0), (0, 0), (0, 0)])]
def KX7_readName_83 : List RI := [(.aload_n 0, 1, 0, 0, []), (.aload 4, 2, 0, 0, []), (.invokevirtual 193, 3, 1, 161, [(0, 0), (0, 0), (0, 0), (0, 0), (0, 0), (0, 0), (0, 0), (0, 0)]), (.areturn, 1, 0, 0, [])]
def KX7_readName : RB := [(0, KX7_readName_0), (9, KX7_readName_9), (15, KX7_readName_15), (21, KX7_readName_21), (27, KX7_readName_27), (31, KX7_readName_31), (32, KX7_readName_32), (38, KX7_readName_38), (43, KX7_readName_43), (44, KX7_readName_44), (48, KX7_readName_48), (52, KX7_readName_52), (53, KX7_readName_53), (79, KX7_readName_79), (83, KX7_readName_83)]
def rX7_readName : CmC := (yX7_readName, cX7_readName, 5, (some (.object "PlainJava$Exp")), 1, 8, false)
theorem hX7_readName : mtC[175]? = some rX7_readName := rfl
set_option maxRecDepth 100000 in
theorem okX7_readName : cokMC rX7_readName KX7_readName = true := cokMC_of [] (fun _ h => absurd h List.not_mem_nil) (by decide +kernel) (by decide +kernel)
def KX7_readCall_0 : List RI := [(.aload_n 0, 1, 0, 0, []), (.bipush 10, 2, 0, 0, []), (.iconst 0, 1, 0, 0, []), (.invokevirtual 288, 3, 2, 162, [(0, 0), (0, 0), (0, 0), (0, 0), (0, 0), (0, 0), (0, 0), (0, 0)]), (.astore_n 2, 1, 0, 2, []), (.aload_n 0, 1, 0, 0, []), (.invokevirtual 57, 3, 0, 128, [(0, 0), (0, 0), (0, 0), (0, 0), (0, 0), (0, 0), (0, 0), (0, 0)]), (.aload_n 0, 1, 0, 0, []), (.invokevirtual 57, 3, 0, 128, [(0, 0), (0, 0), (0, 0), (0, 0), (0, 0), (0, 0), (0, 0), (0, 0)]), (.aload_n 0, 1, 0, 0, []), (.iload_n 1, 1, 0, 1, []), (.iconst 1, 1, 0, 0, []), (.iadd, 1, 0, 0, []), (.invokevirtual 212, 3, 1, 131, [(0, 0), (0, 0), (0, 0), (0, 0), (0, 0), (0, 0), (0, 0), (0, 0)]), (.ifCond .ne 68, 3, 0, 91, [])]
def KX7_readCall_26 : List RI := [(.aload_n 0, 1, 0, 0, []), (.invokevirtual 38, 3, 0, 125, [(0, 0), (0, 0), (0, 0), (0, 0), (0, 0), (0, 0), (0, 0), (0, 0)]), (.iconst 1, 1, 0, 0, []), (.if_icmp .eq 60, 3, 0, 91, [])]
def KX7_readCall_34 : List RI := [(.aload_n 2, 1, 0, 2, []), (.aload_n 0, 1, 0, 0, []), (.iload_n 1, 1, 0, 1, []), (.iconst 1, 1, 0, 0, []), (.iadd, 1, 0, 0, []), (.invokevirtual 170, 3, 1, 164, [(0, 0), (0, 0), (0, 0), (0, 0), (0, 0), (0, 0), (0, 0), (0, 0)]), (.putfield 190, 3, 0, 72, []), (.aload_n 2, 1, 0, 2, []), (.getfield 190, 3, 0, 72, []), (.astore_n 3, 1, 0, 3, []), (.iconst 0, 1, 0, 0, []), (.istore 4, 2, 0, 0, [])]
def KX7_readCall_53 : List RI := [(.iload 4, 2, 0, 0, []), (.sipush 500, 3, 0, 0, []), (.if_icmp .gt 33, 3, 0, 91, [])]
def KX7_readCall_61 : List RI := [(.aload_n 0, 1, 0, 0, []), (.iconst 5, 1, 0, 0, []), (.invokevirtual 114, 3, 1, 130, [(0, 0), (0, 0), (0, 0), (0, 0), (0, 0), (0, 0), (0, 0), (0, 0)]), (.ifCond .eq 25, 3, 0, 91, [])]
def KX7_readCall_69 : List RI := [(.aload_n 3, 1, 0, 3, []), (.aload_n 0, 1, 0, 0, []), (.iload_n 1, 1, 0, 1, []), (.iconst 1, 1, 0, 0, []), (.iadd, 1, 0, 0, []), (.invokevirtual 170, 3, 1, 164, [(0, 0), (0, 0), (0, 0), (0, 0), (0, 0), (0, 0), (0, 0), (0, 0)]), (.putfield 332, 3, 0, 75, []), (.aload_n 3, 1, 0, 3, []), (.getfield 332, 3, 0, 75, []), (.astore_n 3, 1, 0, 3, []), (.iinc 4 1, 3, 0, 0, []), (.goto (-35), 3, 0, 53, [])]
def KX7_readCall_91 : List RI := [(.aload_n 0, 1, 0, 0, []), (.iconst 1, 1, 0, 0, []), (.invokevirtual 111, 3, 1, 129, [(0, 0), (0, 0), (0, 0), (0, 0), (0, 0), (0, 0), (0, 0), (0, 0)]), (.aload_n 0, 1, 0, 0, []), (.aload_n 2, 1, 0, 2, []), (.invokevirtual 193, 3, 1, 161, [(0, 0), (0, 0), (0, 0), (0, 0), (0, 0), (0, 0), (0, 0), (0, 0)]), (.areturn, 1, 0, 0, [])]
def KX7_readCall : RB := [(0, KX7_readCall_0), (26, KX7_readCall_26), (34, KX7_readCall_34), (53, KX7_readCall_53), (61, KX7_readCall_61), (69, KX7_readCall_69), (91, KX7_readCall_91)]
def rX7_readCall : CmC := (yX7_readCall, cX7_readCall, 5, (some (.object "PlainJava$Exp")), 1, 8, false)
theorem hX7_readCall : mtC[176]? = some rX7_readCall := rfl
set_option maxRecDepth 100000 in
theorem okX7_readCall : cokMC rX7_readCall KX7_readCall = true := cokMC_of [] (fun _ h => absurd h List.not_mem_nil) (by decide +kernel) (by decide +kernel)
def KX7_readLiteral_0 : List RI := [(.aload_n 0, 1, 0, 0, []), (.invokevirtual 38, 3, 0, 125, [(0, 0), (0, 0), (0, 0), (0, 0), (0, 0), (0, 0), (0, 0), (0, 0)]), (.bipush 81, 2, 0, 0, []), (.if_icmp .eq 12, 3, 0, 18, [])]
def KX7_readLiteral_9 : List RI := [(.aload_n 0, 1, 0, 0, []), (.invokevirtual 38, 3, 0, 125, [(0, 0), (0, 0), (0, 0), (0, 0), (0, 0), (0, 0), (0, 0), (0, 0)]), (.bipush 82, 2, 0, 0, []), (.if_icmp .ne 7, 3, 0, 22, [])]
def KX7_readLiteral_18 : List RI := [(.iconst 1, 1, 0, 0, []), (.goto 4, 3, 0, 23, [])]
def KX7_readLiteral_22 : List RI := [(.iconst 0, 1, 0, 0, [])]
def KX7_readLiteral_23 : List RI := [(.istore_n 1, 1, 0, 1, []), (.aload_n 0, 1, 0, 0, []), (.iload_n 1, 1, 0, 1, []), (.ifCond .eq 7, 3, 0, 33, [])]
def KX7_readLiteral_29 : List RI := [(.iconst 0, 1, 0, 0, []), (.goto 4, 3, 0, 34, [])]
def KX7_readLiteral_33 : List RI := [(.iconst 1, 1, 0, 0, [])]
def KX7_readLiteral_34 : List RI := [(.aload_n 0, 1, 0, 0, []), (.invokevirtual 38, 3, 0, 125, [(0, 0), (0, 0), (0, 0), (0, 0), (0, 0), (0, 0), (0, 0), (0, 0)]), (.invokevirtual 288, 3, 2, 162, [(0, 0), (0, 0), (0, 0), (0, 0), (0, 0), (0, 0), (0, 0), (0, 0)]), (.astore_n 2, 1, 0, 2, []), (.aload_n 2, 1, 0, 2, []), (.iconst 1, 1, 0, 0, []), (.putfield 370, 3, 0, 70, []), (.aload_n 2, 1, 0, 2, []), (.aload_n 0, 1, 0, 0, []), (.invokevirtual 38, 3, 0, 125, [(0, 0), (0, 0), (0, 0), (0, 0), (0, 0), (0, 0), (0, 0), (0, 0)]), (.bipush 72, 2, 0, 0, []), (.if_icmp .ne 7, 3, 0, 61, [])]
def KX7_readLiteral_57 : List RI := [(.lconst 1, 1, 0, 0, []), (.goto 28, 3, 0, 86, [])]
def KX7_readLiteral_61 : List RI := [(.aload_n 0, 1, 0, 0, []), (.invokevirtual 38, 3, 0, 125, [(0, 0), (0, 0), (0, 0), (0, 0), (0, 0), (0, 0), (0, 0), (0, 0)]), (.bipush 73, 2, 0, 0, []), (.if_icmp .ne 7, 3, 0, 74, [])]
def KX7_readLiteral_70 : List RI := [(.lconst 0, 1, 0, 0, []), (.goto 15, 3, 0, 86, [])]
def KX7_readLiteral_74 : List RI := [(.aload_n 0, 1, 0, 0, []), (.getfield 21, 3, 0, 241, []), (.getfield 75, 3, 0, 304, []), (.aload_n 0, 1, 0, 0, []), (.getfield 31, 3, 0, 242, []), (.laload, 1, 0, 0, [])]
def KX7_readLiteral_86 : List RI := [(.putfield 373, 3, 0, 71, []), (.aload_n 2, 1, 0, 2, []), (.aload_n 0, 1, 0, 0, []), (.invokevirtual 38, 3, 0, 125, [(0, 0), (0, 0), (0, 0), (0, 0), (0, 0), (0, 0), (0, 0), (0, 0)]), (.bipush 83, 2, 0, 0, []), (.if_icmp .ne 7, 3, 0, 103, [])]
def KX7_readLiteral_99 : List RI := [(.iconst 2, 1, 0, 0, []), (.goto 12, 3, 0, 112, [])]
def KX7_readLiteral_103 : List RI := [(.iload_n 1, 1, 0, 1, []), (.ifCond .eq 7, 3, 0, 111, [])]
def KX7_readLiteral_107 : List RI := [(.iconst (-1), 1, 0, 0, []), (.goto 4, 3, 0, 112, [])]
def KX7_readLiteral_111 : List RI := [(.iconst 0, 1, 0, 0, [])]
def KX7_readLiteral_112 : List RI := [(.putfield 376, 3, 0, 68, []), (.aload_n 0, 1, 0, 0, []), (.invokevirtual 57, 3, 0, 128, [(0, 0), (0, 0), (0, 0), (0, 0), (0, 0), (0, 0), (0, 0), (0, 0)]), (.aload_n 0, 1, 0, 0, []), (.aload_n 2, 1, 0, 2, []), (.invokevirtual 193, 3, 1, 161, [(0, 0), (0, 0), (0, 0), (0, 0), (0, 0), (0, 0), (0, 0), (0, 0)]), (.areturn, 1, 0, 0, [])]
def KX7_readLiteral : RB := [(0, KX7_readLiteral_0), (9, KX7_readLiteral_9), (18, KX7_readLiteral_18), (22, KX7_readLiteral_22), (23, KX7_readLiteral_23), (29, KX7_readLiteral_29), (33, KX7_readLiteral_33), (34, KX7_readLiteral_34), (57, KX7_readLiteral_57), (61, KX7_readLiteral_61), (70, KX7_readLiteral_70), (74, KX7_readLiteral_74), (86, KX7_readLiteral_86), (99, KX7_readLiteral_99), (103, KX7_readLiteral_103), (107, KX7_readLiteral_107), (111, KX7_readLiteral_111), (112, KX7_readLiteral_112)]
def rX7_readLiteral : CmC := (yX7_readLiteral, cX7_readLiteral, 3, (some (.object "PlainJava$Exp")), 0, 8, false)
theorem hX7_readLiteral : mtC[177]? = some rX7_readLiteral := rfl
set_option maxRecDepth 100000 in
theorem okX7_readLiteral : cokMC rX7_readLiteral KX7_readLiteral = true := cokMC_of [] (fun _ h => absurd h List.not_mem_nil) (by decide +kernel) (by decide +kernel)
def KX8_init_0 : List RI := [(.aload_n 0, 1, 0, 0, []), (.invokespecial 3, 3, 0, 9999, []), (.aload_n 0, 1, 0, 0, []), (.iconst (-1), 1, 0, 0, []), (.putfield 9, 3, 0, 280, []), (.aload_n 0, 1, 0, 0, []), (.ldc2_w 15, 3, (-1), 0, []), (.putfield 17, 3, 0, 287, []), (.aload_n 0, 1, 0, 0, []), (.ldc2_w 15, 3, (-1), 0, []), (.putfield 21, 3, 0, 288, []), (.aload_n 0, 1, 0, 0, []), (.iload_n 1, 1, 0, 1, []), (.putfield 24, 3, 0, 270, []), (.aload_n 0, 1, 0, 0, []), (.iload_n 2, 1, 0, 2, []), (.putfield 27, 3, 0, 271, []), (.aload_n 0, 1, 0, 0, []), (.iload_n 3, 1, 0, 3, []), (.putfield 30, 3, 0, 272, []), (.aload_n 0, 1, 0, 0, []), (.aload 4, 2, 0, 0, []), (.putfield 33, 3, 0, 273, []), (.aload_n 0, 1, 0, 0, []), (.lload 5, 2, 0, 0, []), (.putfield 37, 3, 0, 274, []), (.return_, 1, 0, 0, [])]
def KX8_init : RB := [(0, KX8_init_0)]
def rX8_init : CmC := (yX8_init, cX8_init, 7, none, 5, 9, false)
theorem hX8_init : mtC[178]? = some rX8_init := rfl
set_option maxRecDepth 100000 in
theorem okX8_init : cokMC rX8_init KX8_init = true := cokMC_of [] (fun _ h => absurd h List.not_mem_nil) (by decide +kernel) (by decide +kernel)
def KX8_isLoop_0 : List RI := [(.aload_n 0, 1, 0, 0, []), (.getfield 24, 3, 0, 270, []), (.bipush 58, 2, 0, 0, []), (.if_icmp .eq 21, 3, 0, 27, [])]
def KX8_isLoop_9 : List RI := [(.aload_n 0, 1, 0, 0, []), (.getfield 24, 3, 0, 270, []), (.bipush 59, 2, 0, 0, []), (.if_icmp .eq 12, 3, 0, 27, [])]
def KX8_isLoop_18 : List RI := [(.aload_n 0, 1, 0, 0, []), (.getfield 24, 3, 0, 270, []), (.bipush 60, 2, 0, 0, []), (.if_icmp .ne 7, 3, 0, 31, [])]
def KX8_isLoop_27 : List RI := [(.iconst 1, 1, 0, 0, []), (.goto 4, 3, 0, 32, [])]
def KX8_isLoop_31 : List RI := [(.iconst 0, 1, 0, 0, [])]
def KX8_isLoop_32 : List RI := [(.ireturn, 1, 2, 0, [])]
def KX8_isLoop : RB := [(0, KX8_isLoop_0), (9, KX8_isLoop_9), (18, KX8_isLoop_18), (27, KX8_isLoop_27), (31, KX8_isLoop_31), (32, KX8_isLoop_32)]
def rX8_isLoop : CmC := (yX8_isLoop, cX8_isLoop, 1, (some .boolean), 0, 9, false)
theorem hX8_isLoop : mtC[179]? = some rX8_isLoop := rfl
set_option maxRecDepth 100000 in
theorem okX8_isLoop : cokMC rX8_isLoop KX8_isLoop = true := cokMC_of [] (fun _ h => absurd h List.not_mem_nil) (by decide +kernel) (by decide +kernel)
def KX8_isPart_0 : List RI := [(.aload_n 0, 1, 0, 0, []), (.getfield 24, 3, 0, 270, []), (.bipush 62, 2, 0, 0, []), (.if_icmp .eq 39, 3, 0, 45, [])]
def KX8_isPart_9 : List RI := [(.aload_n 0, 1, 0, 0, []), (.getfield 24, 3, 0, 270, []), (.bipush 63, 2, 0, 0, []), (.if_icmp .eq 30, 3, 0, 45, [])]
def KX8_isPart_18 : List RI := [(.aload_n 0, 1, 0, 0, []), (.getfield 24, 3, 0, 270, []), (.bipush 92, 2, 0, 0, []), (.if_icmp .eq 21, 3, 0, 45, [])]
def KX8_isPart_27 : List RI := [(.aload_n 0, 1, 0, 0, []), (.getfield 24, 3, 0, 270, []), (.bipush 93, 2, 0, 0, []), (.if_icmp .eq 12, 3, 0, 45, [])]
def KX8_isPart_36 : List RI := [(.aload_n 0, 1, 0, 0, []), (.getfield 24, 3, 0, 270, []), (.bipush 94, 2, 0, 0, []), (.if_icmp .ne 7, 3, 0, 49, [])]
def KX8_isPart_45 : List RI := [(.iconst 1, 1, 0, 0, []), (.goto 4, 3, 0, 50, [])]
def KX8_isPart_49 : List RI := [(.iconst 0, 1, 0, 0, [])]
def KX8_isPart_50 : List RI := [(.ireturn, 1, 2, 0, [])]
def KX8_isPart : RB := [(0, KX8_isPart_0), (9, KX8_isPart_9), (18, KX8_isPart_18), (27, KX8_isPart_27), (36, KX8_isPart_36), (45, KX8_isPart_45), (49, KX8_isPart_49), (50, KX8_isPart_50)]
def rX8_isPart : CmC := (yX8_isPart, cX8_isPart, 1, (some .boolean), 0, 9, false)
theorem hX8_isPart : mtC[180]? = some rX8_isPart := rfl
set_option maxRecDepth 100000 in
theorem okX8_isPart : cokMC rX8_isPart KX8_isPart = true := cokMC_of [] (fun _ h => absurd h List.not_mem_nil) (by decide +kernel) (by decide +kernel)
def KX8_hasFinallyAhead_0 : List RI := [(.aload_n 0, 1, 0, 0, []), (.getfield 24, 3, 0, 270, []), (.bipush 92, 2, 0, 0, []), (.if_icmp .ne 35, 3, 0, 41, [])]
def KX8_hasFinallyAhead_9 : List RI := [(.aload_n 0, 1, 0, 0, []), (.getfield 33, 3, 0, 273, []), (.ifnull 28, 3, 0, 41, [])]
def KX8_hasFinallyAhead_16 : List RI := [(.aload_n 0, 1, 0, 0, []), (.getfield 33, 3, 0, 273, []), (.getfield 40, 3, 0, 278, []), (.ifnull 18, 3, 0, 41, [])]
def KX8_hasFinallyAhead_26 : List RI := [(.aload_n 0, 1, 0, 0, []), (.getfield 33, 3, 0, 273, []), (.getfield 40, 3, 0, 278, []), (.aload_n 0, 1, 0, 0, []), (.if_acmp .eq 7, 3, 0, 41, [])]
def KX8_hasFinallyAhead_37 : List RI := [(.iconst 1, 1, 0, 0, []), (.goto 4, 3, 0, 42, [])]
def KX8_hasFinallyAhead_41 : List RI := [(.iconst 0, 1, 0, 0, [])]
def KX8_hasFinallyAhead_42 : List RI := [(.ireturn, 1, 2, 0, [])]
def KX8_hasFinallyAhead : RB := [(0, KX8_hasFinallyAhead_0), (9, KX8_hasFinallyAhead_9), (16, KX8_hasFinallyAhead_16), (26, KX8_hasFinallyAhead_26), (37, KX8_hasFinallyAhead_37), (41, KX8_hasFinallyAhead_41), (42, KX8_hasFinallyAhead_42)]
def rX8_hasFinallyAhead : CmC := (yX8_hasFinallyAhead, cX8_hasFinallyAhead, 1, (some .boolean), 0, 9, false)
theorem hX8_hasFinallyAhead : mtC[181]? = some rX8_hasFinallyAhead := rfl
set_option maxRecDepth 100000 in
theorem okX8_hasFinallyAhead : cokMC rX8_hasFinallyAhead KX8_hasFinallyAhead = true := cokMC_of [] (fun _ h => absurd h List.not_mem_nil) (by decide +kernel) (by decide +kernel)
def KX8_isCaught_0 : List RI := [(.aload_n 0, 1, 0, 0, []), (.getfield 24, 3, 0, 270, []), (.bipush 92, 2, 0, 0, []), (.if_icmp .ne 35, 3, 0, 41, [])]
def KX8_isCaught_9 : List RI := [(.aload_n 0, 1, 0, 0, []), (.getfield 33, 3, 0, 273, []), (.ifnull 28, 3, 0, 41, [])]
def KX8_isCaught_16 : List RI := [(.aload_n 0, 1, 0, 0, []), (.getfield 33, 3, 0, 273, []), (.getfield 43, 3, 0, 277, []), (.ifnull 18, 3, 0, 41, [])]
def KX8_isCaught_26 : List RI := [(.aload_n 0, 1, 0, 0, []), (.getfield 33, 3, 0, 273, []), (.getfield 46, 3, 0, 276, []), (.aload_n 0, 1, 0, 0, []), (.if_acmp .ne 7, 3, 0, 41, [])]
def KX8_isCaught_37 : List RI := [(.iconst 1, 1, 0, 0, []), (.goto 4, 3, 0, 42, [])]
def KX8_isCaught_41 : List RI := [(.iconst 0, 1, 0, 0, [])]
def KX8_isCaught_42 : List RI := [(.ireturn, 1, 2, 0, [])]
def KX8_isCaught : RB := [(0, KX8_isCaught_0), (9, KX8_isCaught_9), (16, KX8_isCaught_16), (26, KX8_isCaught_26), (37, KX8_isCaught_37), (41, KX8_isCaught_41), (42, KX8_isCaught_42)]
def rX8_isCaught : CmC := (yX8_isCaught, cX8_isCaught, 1, (some .boolean), 0, 9, false)
theorem hX8_isCaught : mtC[182]? = some rX8_isCaught := rfl
set_option maxRecDepth 100000 in
theorem okX8_isCaught : cokMC rX8_isCaught KX8_isCaught = true := cokMC_of [] (fun _ h => absurd h List.not_mem_nil) (by decide +kernel) (by decide +kernel)
def KX8_isAlways_0 : List RI := [(.aload_n 0, 1, 0, 0, []), (.getfield 49, 3, 0, 279, []), (.ifnonnull 14, 3, 0, 18, [])]
def KX8_isAlways_7 : List RI := [(.iload_n 1, 1, 0, 1, []), (.iconst 1, 1, 0, 0, []), (.if_icmp .ne 7, 3, 0, 16, [])]
def KX8_isAlways_12 : List RI := [(.iconst 1, 1, 0, 0, []), (.goto 4, 3, 0, 17, [])]
def KX8_isAlways_16 : List RI := [(.iconst 0, 1, 0, 0, [])]
def KX8_isAlways_17 : List RI := [(.ireturn, 1, 2, 0, [])]
def KX8_isAlways_18 : List RI := [(.aload_n 0, 1, 0, 0, []), (.getfield 49, 3, 0, 279, []), (.getfield 53, 3, 0, 70, []), (.ifCond .eq 20, 3, 0, 45, [])]
def KX8_isAlways_28 : List RI := [(.aload_n 0, 1, 0, 0, []), (.getfield 49, 3, 0, 279, []), (.getfield 59, 3, 0, 71, []), (.iload_n 1, 1, 0, 1, []), (.i2l, 1, 0, 0, []), (.lcmp, 1, 0, 0, []), (.ifCond .ne 7, 3, 0, 45, [])]
def KX8_isAlways_41 : List RI := [(.iconst 1, 1, 0, 0, []), (.goto 4, 3, 0, 46, [])]
def KX8_isAlways_45 : List RI := [(.iconst 0, 1, 0, 0, [])]
def KX8_isAlways_46 : List RI := [(.ireturn, 1, 2, 0, [])]
def KX8_isAlways : RB := [(0, KX8_isAlways_0), (7, KX8_isAlways_7), (12, KX8_isAlways_12), (16, KX8_isAlways_16), (17, KX8_isAlways_17), (18, KX8_isAlways_18), (28, KX8_isAlways_28), (41, KX8_isAlways_41), (45, KX8_isAlways_45), (46, KX8_isAlways_46)]
def rX8_isAlways : CmC := (yX8_isAlways, cX8_isAlways, 2, (some .boolean), 1, 9, false)
theorem hX8_isAlways : mtC[183]? = some rX8_isAlways := rfl
set_option maxRecDepth 100000 in
theorem okX8_isAlways : cokMC rX8_isAlways KX8_isAlways = true := cokMC_of [] (fun _ h => absurd h List.not_mem_nil) (by decide +kernel) (by decide +kernel)
def KX9_init_0 : List RI := [(.aload_n 0, 1, 0, 0, []), (.invokespecial 3, 3, 0, 9999, []), (.aload_n 0, 1, 0, 0, []), (.sipush 503, 3, 0, 0, []), (.newarray .int, 2, 3, 100, []), (.putfield 11, 3, 0, 300, []), (.aload_n 0, 1, 0, 0, []), (.sipush 503, 3, 0, 0, []), (.newarray .int, 2, 4, 100, []), (.putfield 15, 3, 0, 301, []), (.aload_n 0, 1, 0, 0, []), (.sipush 503, 3, 0, 0, []), (.newarray .int, 2, 2, 100, []), (.putfield 18, 3, 0, 302, []), (.aload_n 0, 1, 0, 0, []), (.sipush 503, 3, 0, 0, []), (.newarray .int, 2, 0, 100, []), (.putfield 21, 3, 0, 303, []), (.aload_n 0, 1, 0, 0, []), (.sipush 503, 3, 0, 0, []), (.newarray .long, 2, 0, 102, []), (.putfield 24, 3, 0, 304, []), (.aload_n 0, 1, 0, 0, []), (.bipush 24, 2, 0, 0, []), (.newarray .long, 2, 5, 102, []), (.putfield 28, 3, 0, 306, []), (.aload_n 0, 1, 0, 0, []), (.iconst 0, 1, 0, 0, []), (.newarray .byte, 2, 0, 101, []), (.putfield 31, 3, 0, 307, []), (.iconst 0, 1, 0, 0, []), (.istore_n 1, 1, 0, 1, []), (.iconst 0, 1, 0, 0, []), (.istore_n 2, 1, 0, 2, [])]
def KX9_init_68 : List RI := [(.iload_n 2, 1, 0, 2, []), (.ldc 35, 2, 0, 1000003, []), (.invokevirtual 37, 3, 0, 239, [(0, 0), (0, 0), (0, 0), (0, 0), (0, 0), (0, 0), (0, 0), (0, 0), (0, 0), (0, 0), (0, 0), (0, 0), (0, 0)]), (.if_icmp .ge 50, 3, 0, 124, [])]
def KX9_init_77 : List RI := [(.ldc 35, 2, 0, 1000003, []), (.iload_n 2, 1, 0, 2, []), (.invokevirtual 43, 3, 1, 238, [(0, 0), (0, 0), (0, 0), (0, 0), (0, 0), (0, 0), (0, 0), (0, 0), (0, 0), (0, 0), (0, 0), (0, 0), (0, 0)]), (.istore_n 3, 1, 0, 3, []), (.iload_n 3, 1, 0, 3, []), (.bipush 32, 2, 0, 0, []), (.if_icmp .ne 9, 3, 0, 96, [])]
def KX9_init_90 : List RI := [(.iinc 1 1, 3, 0, 0, []), (.goto 25, 3, 0, 118, [])]
def KX9_init_96 : List RI := [(.iload_n 1, 1, 0, 1, []), (.bipush 24, 2, 0, 0, []), (.if_icmp .ge 19, 3, 0, 118, [])]
def KX9_init_102 : List RI := [(.aload_n 0, 1, 0, 0, []), (.getfield 28, 3, 0, 306, []), (.iload_n 1, 1, 0, 1, []), (.aload_n 0, 1, 0, 0, []), (.getfield 28, 3, 0, 306, []), (.iload_n 1, 1, 0, 1, []), (.laload, 1, 0, 0, []), (.iload_n 3, 1, 0, 3, []), (.invokestatic 47, 3, 2, 185, []), (.lastore, 1, 0, 0, [])]
def KX9_init_118 : List RI := [(.iinc 2 1, 3, 0, 0, []), (.goto (-53), 3, 0, 68, [])]
def KX9_init_124 : List RI := [(.return_, 1, 0, 0, [])]
def KX9_init : RB := [(0, KX9_init_0), (68, KX9_init_68), (77, KX9_init_77), (90, KX9_init_90), (96, KX9_init_96), (102, KX9_init_102), (118, KX9_init_118), (124, KX9_init_124)]
def rX9_init : CmC := (yX9_init, cX9_init, 4, none, 0, 10, false)
theorem hX9_init : mtC[184]? = some rX9_init := rfl
set_option maxRecDepth 100000 in
theorem swX9_init_8 : decode cX9_init 8 = .ok (.newarray .int, 2) := by decide +kernel
set_option maxRecDepth 100000 in
theorem swX9_init_17 : decode cX9_init 17 = .ok (.newarray .int, 2) := by decide +kernel
set_option maxRecDepth 100000 in
theorem swX9_init_26 : decode cX9_init 26 = .ok (.newarray .int, 2) := by decide +kernel
set_option maxRecDepth 100000 in
theorem swX9_init_35 : decode cX9_init 35 = .ok (.newarray .int, 2) := by decide +kernel
set_option maxRecDepth 100000 in
theorem swX9_init_44 : decode cX9_init 44 = .ok (.newarray .long, 2) := by decide +kernel
set_option maxRecDepth 100000 in
theorem swX9_init_52 : decode cX9_init 52 = .ok (.newarray .long, 2) := by decide +kernel
set_option maxRecDepth 100000 in
theorem swX9_init_59 : decode cX9_init 59 = .ok (.newarray .byte, 2) := by decide +kernel
set_option maxRecDepth 100000 in
theorem okX9_init : cokMC rX9_init KX9_init = true := cokMC_of [(8, .newarray .int, 2), (17, .newarray .int, 2), (26, .newarray .int, 2), (35, .newarray .int, 2), (44, .newarray .long, 2), (52, .newarray .long, 2), (59, .newarray .byte, 2)] (fun q hq => by
  simp only [List.mem_cons, List.not_mem_nil, or_false] at hq
  rcases hq with rfl | rfl | rfl | rfl | rfl | rfl | rfl
  · exact swX9_init_8
  · exact swX9_init_17
  · exact swX9_init_26
  · exact swX9_init_35
  · exact swX9_init_44
  · exact swX9_init_52
  · exact swX9_init_59) (by decide +kernel) (by decide +kernel)
def KX9_longerKey_0 : List RI := [(.iload_n 2, 1, 0, 2, []), (.bipush 97, 2, 0, 0, []), (.if_icmp .lt 13, 3, 0, 16, [])]
def KX9_longerKey_6 : List RI := [(.iload_n 2, 1, 0, 2, []), (.bipush 97, 2, 0, 0, []), (.isub, 1, 0, 0, []), (.bipush 37, 2, 0, 0, []), (.iadd, 1, 0, 0, []), (.goto 25, 3, 0, 38, [])]
def KX9_longerKey_16 : List RI := [(.iload_n 2, 1, 0, 2, []), (.bipush 65, 2, 0, 0, []), (.if_icmp .lt 13, 3, 0, 32, [])]
def KX9_longerKey_22 : List RI := [(.iload_n 2, 1, 0, 2, []), (.bipush 65, 2, 0, 0, []), (.isub, 1, 0, 0, []), (.bipush 11, 2, 0, 0, []), (.iadd, 1, 0, 0, []), (.goto 9, 3, 0, 38, [])]
def KX9_longerKey_32 : List RI := [(.iload_n 2, 1, 0, 2, []), (.bipush 48, 2, 0, 0, []), (.isub, 1, 0, 0, []), (.iconst 1, 1, 0, 0, []), (.iadd, 1, 0, 0, [])]
def KX9_longerKey_38 : List RI := [(.istore_n 3, 1, 0, 3, []), (.lload_n 0, 1, 0, 0, []), (.bipush 6, 2, 0, 0, []), (.lshl, 1, 0, 0, []), (.iload_n 3, 1, 0, 3, []), (.i2l, 1, 0, 0, []), (.lor, 1, 0, 0, []), (.lreturn, 1, 0, 0, [])]
def KX9_longerKey : RB := [(0, KX9_longerKey_0), (6, KX9_longerKey_6), (16, KX9_longerKey_16), (22, KX9_longerKey_22), (32, KX9_longerKey_32), (38, KX9_longerKey_38)]
def rX9_longerKey : CmC := (yX9_longerKey, cX9_longerKey, 4, (some .long), 2, 10, true)
theorem hX9_longerKey : mtC[185]? = some rX9_longerKey := rfl
set_option maxRecDepth 100000 in
theorem okX9_longerKey : cokMC rX9_longerKey KX9_longerKey = true := cokMC_of [] (fun _ h => absurd h List.not_mem_nil) (by decide +kernel) (by decide +kernel)
def KX9_keyOf_0 : List RI := [(.lconst 0, 1, 0, 0, []), (.lstore_n 1, 1, 0, 1, []), (.iconst 0, 1, 0, 0, []), (.istore_n 3, 1, 0, 3, [])]
def KX9_keyOf_4 : List RI := [(.iload_n 3, 1, 0, 3, []), (.aload_n 0, 1, 0, 0, []), (.invokevirtual 37, 3, 0, 239, [(0, 0), (0, 0), (0, 0), (0, 0), (0, 0), (0, 0), (0, 0), (0, 0), (0, 0), (0, 0), (0, 0), (0, 0), (0, 0)]), (.if_icmp .ge 19, 3, 0, 28, [])]
def KX9_keyOf_12 : List RI := [(.lload_n 1, 1, 0, 1, []), (.aload_n 0, 1, 0, 0, []), (.iload_n 3, 1, 0, 3, []), (.invokevirtual 43, 3, 1, 238, [(0, 0), (0, 0), (0, 0), (0, 0), (0, 0), (0, 0), (0, 0), (0, 0), (0, 0), (0, 0), (0, 0), (0, 0), (0, 0)]), (.invokestatic 47, 3, 2, 185, []), (.lstore_n 1, 1, 0, 1, []), (.iinc 3 1, 3, 0, 0, []), (.goto (-21), 3, 0, 4, [])]
def KX9_keyOf_28 : List RI := [(.lload_n 1, 1, 0, 1, []), (.lreturn, 1, 0, 0, [])]
def KX9_keyOf : RB := [(0, KX9_keyOf_0), (4, KX9_keyOf_4), (12, KX9_keyOf_12), (28, KX9_keyOf_28)]
def rX9_keyOf : CmC := (yX9_keyOf, cX9_keyOf, 4, (some .long), 1, 10, true)
theorem hX9_keyOf : mtC[186]? = some rX9_keyOf := rfl
set_option maxRecDepth 100000 in
theorem okX9_keyOf : cokMC rX9_keyOf KX9_keyOf = true := cokMC_of [] (fun _ h => absurd h List.not_mem_nil) (by decide +kernel) (by decide +kernel)
def KX9_sort_0 : List RI := [(.aload_n 0, 1, 0, 0, []), (.getfield 18, 3, 0, 302, []), (.iload_n 1, 1, 0, 1, []), (.iaload, 1, 0, 0, []), (.istore_n 2, 1, 0, 2, []), (.iload_n 2, 1, 0, 2, []), (.bipush 80, 2, 0, 0, []), (.if_icmp .ne 5, 3, 0, 15, [])]
def KX9_sort_13 : List RI := [(.iconst 1, 1, 0, 0, []), (.ireturn, 1, 1, 0, [])]
def KX9_sort_15 : List RI := [(.iload_n 2, 1, 0, 2, []), (.bipush 81, 2, 0, 0, []), (.if_icmp .eq 9, 3, 0, 27, [])]
def KX9_sort_21 : List RI := [(.iload_n 2, 1, 0, 2, []), (.bipush 82, 2, 0, 0, []), (.if_icmp .ne 5, 3, 0, 29, [])]
def KX9_sort_27 : List RI := [(.iconst 2, 1, 0, 0, []), (.ireturn, 1, 1, 0, [])]
def KX9_sort_29 : List RI := [(.iload_n 2, 1, 0, 2, []), (.bipush 83, 2, 0, 0, []), (.if_icmp .ne 5, 3, 0, 37, [])]
def KX9_sort_35 : List RI := [(.iconst 3, 1, 0, 0, []), (.ireturn, 1, 1, 0, [])]
def KX9_sort_37 : List RI := [(.iload_n 2, 1, 0, 2, []), (.bipush 50, 2, 0, 0, []), (.if_icmp .lt 7, 3, 0, 47, [])]
def KX9_sort_43 : List RI := [(.iconst 4, 1, 0, 0, []), (.goto 4, 3, 0, 48, [])]
def KX9_sort_47 : List RI := [(.iconst 5, 1, 0, 0, [])]
def KX9_sort_48 : List RI := [(.ireturn, 1, 1, 0, [])]
def KX9_sort : RB := [(0, KX9_sort_0), (13, KX9_sort_13), (15, KX9_sort_15), (21, KX9_sort_21), (27, KX9_sort_27), (29, KX9_sort_29), (35, KX9_sort_35), (37, KX9_sort_37), (43, KX9_sort_43), (47, KX9_sort_47), (48, KX9_sort_48)]
def rX9_sort : CmC := (yX9_sort, cX9_sort, 3, (some .int), 1, 10, false)
theorem hX9_sort : mtC[187]? = some rX9_sort := rfl
set_option maxRecDepth 100000 in
theorem okX9_sort : cokMC rX9_sort KX9_sort = true := cokMC_of [] (fun _ h => absurd h List.not_mem_nil) (by decide +kernel) (by decide +kernel)
def KX9_cutText_0 : List RI := [(.aload_n 0, 1, 0, 0, []), (.aload_n 1, 1, 0, 1, []), (.putfield 31, 3, 0, 307, []), (.aload_n 0, 1, 0, 0, []), (.iload_n 2, 1, 0, 2, []), (.aload_n 1, 1, 0, 1, []), (.arraylength, 1, 0, 0, []), (.invokestatic 51, 3, 2, 9996, []), (.putfield 57, 3, 0, 308, []), (.aload_n 0, 1, 0, 0, []), (.iconst 0, 1, 0, 0, []), (.putfield 60, 3, 0, 305, []), (.iconst 1, 1, 0, 0, []), (.istore_n 3, 1, 0, 3, []), (.aload_n 0, 1, 0, 0, []), (.iconst 0, 1, 0, 0, []), (.invokevirtual 63, 3, 1, 190, [(0, 0), (0, 0), (0, 0), (0, 0), (0, 0), (0, 0), (0, 0), (0, 0), (0, 0), (0, 0)]), (.istore 4, 2, 0, 0, [])]
def KX9_cutText_29 : List RI := [(.iload_n 3, 1, 0, 3, []), (.ifCond .eq 102, 3, 0, 132, [])]
def KX9_cutText_33 : List RI := [(.iload 4, 2, 0, 0, []), (.aload_n 0, 1, 0, 0, []), (.getfield 57, 3, 0, 308, []), (.if_icmp .ge 93, 3, 0, 132, [])]
def KX9_cutText_42 : List RI := [(.aload_n 0, 1, 0, 0, []), (.getfield 60, 3, 0, 305, []), (.sipush 500, 3, 0, 0, []), (.if_icmp .gt 83, 3, 0, 132, [])]
def KX9_cutText_52 : List RI := [(.aload_n 0, 1, 0, 0, []), (.iload 4, 2, 0, 0, []), (.invokevirtual 67, 3, 1, 191, [(0, 0), (0, 0), (0, 0), (0, 0), (0, 0), (0, 0), (0, 0), (0, 0), (0, 0), (0, 0)]), (.istore 5, 2, 0, 0, []), (.iload 5, 2, 0, 0, []), (.ifCond .le 7, 3, 0, 69, [])]
def KX9_cutText_65 : List RI := [(.iconst 1, 1, 0, 0, []), (.goto 4, 3, 0, 70, [])]
def KX9_cutText_69 : List RI := [(.iconst 0, 1, 0, 0, [])]
def KX9_cutText_70 : List RI := [(.istore_n 3, 1, 0, 3, []), (.iload_n 3, 1, 0, 3, []), (.ifCond .eq 57, 3, 0, 129, [])]
def KX9_cutText_75 : List RI := [(.aload_n 0, 1, 0, 0, []), (.getfield 11, 3, 0, 300, []), (.aload_n 0, 1, 0, 0, []), (.getfield 60, 3, 0, 305, []), (.iload 4, 2, 0, 0, []), (.iastore, 1, 0, 0, []), (.aload_n 0, 1, 0, 0, []), (.getfield 15, 3, 0, 301, []), (.aload_n 0, 1, 0, 0, []), (.getfield 60, 3, 0, 305, []), (.iload 5, 2, 0, 0, []), (.iastore, 1, 0, 0, []), (.aload_n 0, 1, 0, 0, []), (.getfield 21, 3, 0, 303, []), (.aload_n 0, 1, 0, 0, []), (.getfield 60, 3, 0, 305, []), (.bipush (-2), 2, 0, 0, []), (.iastore, 1, 0, 0, []), (.aload_n 0, 1, 0, 0, []), (.dup, 1, 0, 0, []), (.getfield 60, 3, 0, 305, []), (.iconst 1, 1, 0, 0, []), (.iadd, 1, 0, 0, []), (.putfield 60, 3, 0, 305, []), (.aload_n 0, 1, 0, 0, []), (.iload 4, 2, 0, 0, []), (.iload 5, 2, 0, 0, []), (.iadd, 1, 0, 0, []), (.invokevirtual 63, 3, 1, 190, [(0, 0), (0, 0), (0, 0), (0, 0), (0, 0), (0, 0), (0, 0), (0, 0), (0, 0), (0, 0)]), (.istore 4, 2, 0, 0, [])]
def KX9_cutText_129 : List RI := [(.goto (-100), 3, 0, 29, [])]
def KX9_cutText_132 : List RI := [(.aload_n 0, 1, 0, 0, []), (.getfield 11, 3, 0, 300, []), (.aload_n 0, 1, 0, 0, []), (.getfield 60, 3, 0, 305, []), (.iload 4, 2, 0, 0, []), (.iastore, 1, 0, 0, []), (.aload_n 0, 1, 0, 0, []), (.getfield 18, 3, 0, 302, []), (.aload_n 0, 1, 0, 0, []), (.getfield 60, 3, 0, 305, []), (.iload_n 3, 1, 0, 3, []), (.ifCond .eq 8, 3, 0, 160, [])]
def KX9_cutText_155 : List RI := [(.bipush 84, 2, 0, 0, []), (.goto 5, 3, 0, 162, [])]
def KX9_cutText_160 : List RI := [(.bipush 85, 2, 0, 0, [])]
def KX9_cutText_162 : List RI := [(.iastore, 1, 0, 0, []), (.return_, 1, 0, 0, [])]
def KX9_cutText : RB := [(0, KX9_cutText_0), (29, KX9_cutText_29), (33, KX9_cutText_33), (42, KX9_cutText_42), (52, KX9_cutText_52), (65, KX9_cutText_65), (69, KX9_cutText_69), (70, KX9_cutText_70), (75, KX9_cutText_75), (129, KX9_cutText_129), (132, KX9_cutText_132), (155, KX9_cutText_155), (160, KX9_cutText_160), (162, KX9_cutText_162)]
def rX9_cutText : CmC := (yX9_cutText, cX9_cutText, 6, none, 2, 10, false)
theorem hX9_cutText : mtC[188]? = some rX9_cutText := rfl
set_option maxRecDepth 100000 in
theorem okX9_cutText : cokMC rX9_cutText KX9_cutText = true := cokMC_of [] (fun _ h => absurd h List.not_mem_nil) (by decide +kernel) (by decide +kernel)
def KX9_byteAt_0 : List RI := [(.iload_n 1, 1, 0, 1, []), (.ifCond .lt 24, 3, 0, 25, [])]
def KX9_byteAt_4 : List RI := [(.iload_n 1, 1, 0, 1, []), (.aload_n 0, 1, 0, 0, []), (.getfield 57, 3, 0, 308, []), (.if_icmp .ge 16, 3, 0, 25, [])]
def KX9_byteAt_12 : List RI := [(.aload_n 0, 1, 0, 0, []), (.getfield 31, 3, 0, 307, []), (.iload_n 1, 1, 0, 1, []), (.baload, 1, 0, 0, []), (.sipush 255, 3, 0, 0, []), (.iand, 1, 0, 0, []), (.goto 4, 3, 0, 26, [])]
def KX9_byteAt_25 : List RI := [(.iconst (-1), 1, 0, 0, [])]
def KX9_byteAt_26 : List RI := [(.ireturn, 1, 1, 0, [])]
def KX9_byteAt : RB := [(0, KX9_byteAt_0), (4, KX9_byteAt_4), (12, KX9_byteAt_12), (25, KX9_byteAt_25), (26, KX9_byteAt_26)]
def rX9_byteAt : CmC := (yX9_byteAt, cX9_byteAt, 2, (some .int), 1, 10, false)
theorem hX9_byteAt : mtC[189]? = some rX9_byteAt := rfl
set_option maxRecDepth 100000 in
theorem okX9_byteAt : cokMC rX9_byteAt KX9_byteAt = true := cokMC_of [] (fun _ h => absurd h List.not_mem_nil) (by decide +kernel) (by decide +kernel)
def KX9_behindBlanks_0 : List RI := [(.iload_n 1, 1, 0, 1, []), (.istore_n 2, 1, 0, 2, []), (.iconst 0, 1, 0, 0, []), (.istore_n 3, 1, 0, 3, [])]
def KX9_behindBlanks_4 : List RI := [(.iload_n 2, 1, 0, 2, []), (.aload_n 0, 1, 0, 0, []), (.getfield 57, 3, 0, 308, []), (.if_icmp .ge 83, 3, 0, 92, [])]
def KX9_behindBlanks_12 : List RI := [(.aload_n 0, 1, 0, 0, []), (.iload_n 2, 1, 0, 2, []), (.invokevirtual 70, 3, 1, 189, [(0, 0), (0, 0), (0, 0), (0, 0), (0, 0), (0, 0), (0, 0), (0, 0), (0, 0), (0, 0)]), (.istore 4, 2, 0, 0, []), (.iload 4, 2, 0, 0, []), (.bipush 10, 2, 0, 0, []), (.if_icmp .ne 8, 3, 0, 31, [])]
def KX9_behindBlanks_26 : List RI := [(.iconst 0, 1, 0, 0, []), (.istore_n 3, 1, 0, 3, []), (.goto 58, 3, 0, 86, [])]
def KX9_behindBlanks_31 : List RI := [(.iload_n 3, 1, 0, 3, []), (.ifCond .ne 27, 3, 0, 59, [])]
def KX9_behindBlanks_35 : List RI := [(.iload 4, 2, 0, 0, []), (.bipush 47, 2, 0, 0, []), (.if_icmp .ne 20, 3, 0, 59, [])]
def KX9_behindBlanks_42 : List RI := [(.aload_n 0, 1, 0, 0, []), (.iload_n 2, 1, 0, 2, []), (.iconst 1, 1, 0, 0, []), (.iadd, 1, 0, 0, []), (.invokevirtual 70, 3, 1, 189, [(0, 0), (0, 0), (0, 0), (0, 0), (0, 0), (0, 0), (0, 0), (0, 0), (0, 0), (0, 0)]), (.bipush 47, 2, 0, 0, []), (.if_icmp .ne 8, 3, 0, 59, [])]
def KX9_behindBlanks_54 : List RI := [(.iconst 1, 1, 0, 0, []), (.istore_n 3, 1, 0, 3, []), (.goto 30, 3, 0, 86, [])]
def KX9_behindBlanks_59 : List RI := [(.iload_n 3, 1, 0, 3, []), (.ifCond .ne 26, 3, 0, 86, [])]
def KX9_behindBlanks_63 : List RI := [(.iload 4, 2, 0, 0, []), (.bipush 32, 2, 0, 0, []), (.if_icmp .eq 19, 3, 0, 86, [])]
def KX9_behindBlanks_70 : List RI := [(.iload 4, 2, 0, 0, []), (.bipush 9, 2, 0, 0, []), (.if_icmp .eq 12, 3, 0, 86, [])]
def KX9_behindBlanks_77 : List RI := [(.iload 4, 2, 0, 0, []), (.bipush 13, 2, 0, 0, []), (.if_icmp .eq 5, 3, 0, 86, [])]
def KX9_behindBlanks_84 : List RI := [(.iload_n 2, 1, 0, 2, []), (.ireturn, 1, 1, 0, [])]
def KX9_behindBlanks_86 : List RI := [(.iinc 2 1, 3, 0, 0, []), (.goto (-85), 3, 0, 4, [])]
def KX9_behindBlanks_92 : List RI := [(.aload_n 0, 1, 0, 0, []), (.getfield 57, 3, 0, 308, []), (.ireturn, 1, 1, 0, [])]
def KX9_behindBlanks : RB := [(0, KX9_behindBlanks_0), (4, KX9_behindBlanks_4), (12, KX9_behindBlanks_12), (26, KX9_behindBlanks_26), (31, KX9_behindBlanks_31), (35, KX9_behindBlanks_35), (42, KX9_behindBlanks_42), (54, KX9_behindBlanks_54), (59, KX9_behindBlanks_59), (63, KX9_behindBlanks_63), (70, KX9_behindBlanks_70), (77, KX9_behindBlanks_77), (84, KX9_behindBlanks_84), (86, KX9_behindBlanks_86), (92, KX9_behindBlanks_92)]
def rX9_behindBlanks : CmC := (yX9_behindBlanks, cX9_behindBlanks, 5, (some .int), 1, 10, false)
theorem hX9_behindBlanks : mtC[190]? = some rX9_behindBlanks := rfl
set_option maxRecDepth 100000 in
theorem okX9_behindBlanks : cokMC rX9_behindBlanks KX9_behindBlanks = true := cokMC_of [] (fun _ h => absurd h List.not_mem_nil) (by decide +kernel) (by decide +kernel)
def KX9_cutOne_0 : List RI := [(.aload_n 0, 1, 0, 0, []), (.iload_n 1, 1, 0, 1, []), (.invokevirtual 70, 3, 1, 189, [(0, 0), (0, 0), (0, 0), (0, 0), (0, 0), (0, 0), (0, 0), (0, 0), (0, 0), (0, 0)]), (.istore_n 2, 1, 0, 2, []), (.iload_n 2, 1, 0, 2, []), (.invokestatic 73, 3, 1, 192, []), (.ifCond .eq 9, 3, 0, 19, [])]
def KX9_cutOne_13 : List RI := [(.aload_n 0, 1, 0, 0, []), (.iload_n 1, 1, 0, 1, []), (.invokevirtual 77, 3, 1, 194, [(0, 0), (0, 0), (0, 0), (0, 0), (0, 0), (0, 0), (0, 0), (0, 0), (0, 0), (0, 0)]), (.ireturn, 1, 1, 0, [])]
def KX9_cutOne_19 : List RI := [(.iload_n 2, 1, 0, 2, []), (.invokestatic 80, 3, 1, 193, []), (.ifCond .eq 9, 3, 0, 32, [])]
def KX9_cutOne_26 : List RI := [(.aload_n 0, 1, 0, 0, []), (.iload_n 1, 1, 0, 1, []), (.invokevirtual 83, 3, 1, 195, [(0, 0), (0, 0), (0, 0), (0, 0), (0, 0), (0, 0), (0, 0), (0, 0), (0, 0), (0, 0)]), (.ireturn, 1, 1, 0, [])]
def KX9_cutOne_32 : List RI := [(.iload_n 2, 1, 0, 2, []), (.bipush 39, 2, 0, 0, []), (.if_icmp .ne 11, 3, 0, 46, [])]
def KX9_cutOne_38 : List RI := [(.aload_n 0, 1, 0, 0, []), (.iload_n 1, 1, 0, 1, []), (.invokevirtual 86, 3, 1, 196, [(0, 0), (0, 0), (0, 0), (0, 0), (0, 0), (0, 0), (0, 0), (0, 0), (0, 0), (0, 0)]), (.goto 8, 3, 0, 51, [])]
def KX9_cutOne_46 : List RI := [(.aload_n 0, 1, 0, 0, []), (.iload_n 1, 1, 0, 1, []), (.invokevirtual 89, 3, 1, 197, [(0, 0), (0, 0), (0, 0), (0, 0), (0, 0), (0, 0), (0, 0), (0, 0), (0, 0), (0, 0)])]
def KX9_cutOne_51 : List RI := [(.ireturn, 1, 1, 0, [])]
def KX9_cutOne : RB := [(0, KX9_cutOne_0), (13, KX9_cutOne_13), (19, KX9_cutOne_19), (26, KX9_cutOne_26), (32, KX9_cutOne_32), (38, KX9_cutOne_38), (46, KX9_cutOne_46), (51, KX9_cutOne_51)]
def rX9_cutOne : CmC := (yX9_cutOne, cX9_cutOne, 3, (some .int), 1, 10, false)
theorem hX9_cutOne : mtC[191]? = some rX9_cutOne := rfl
set_option maxRecDepth 100000 in
theorem okX9_cutOne : cokMC rX9_cutOne KX9_cutOne = true := cokMC_of [] (fun _ h => absurd h List.not_mem_nil) (by decide +kernel) (by decide +kernel)
def KX9_isLetter_0 : List RI := [(.iload_n 0, 1, 0, 0, []), (.bipush 97, 2, 0, 0, []), (.if_icmp .lt 9, 3, 0, 12, [])]
def KX9_isLetter_6 : List RI := [(.iload_n 0, 1, 0, 0, []), (.bipush 122, 2, 0, 0, []), (.if_icmp .le 15, 3, 0, 24, [])]
def KX9_isLetter_12 : List RI := [(.iload_n 0, 1, 0, 0, []), (.bipush 65, 2, 0, 0, []), (.if_icmp .lt 13, 3, 0, 28, [])]
def KX9_isLetter_18 : List RI := [(.iload_n 0, 1, 0, 0, []), (.bipush 90, 2, 0, 0, []), (.if_icmp .gt 7, 3, 0, 28, [])]
def KX9_isLetter_24 : List RI := [(.iconst 1, 1, 0, 0, []), (.goto 4, 3, 0, 29, [])]
def KX9_isLetter_28 : List RI := [(.iconst 0, 1, 0, 0, [])]
def KX9_isLetter_29 : List RI := [(.ireturn, 1, 2, 0, [])]
def KX9_isLetter : RB := [(0, KX9_isLetter_0), (6, KX9_isLetter_6), (12, KX9_isLetter_12), (18, KX9_isLetter_18), (24, KX9_isLetter_24), (28, KX9_isLetter_28), (29, KX9_isLetter_29)]
def rX9_isLetter : CmC := (yX9_isLetter, cX9_isLetter, 1, (some .boolean), 1, 10, true)
theorem hX9_isLetter : mtC[192]? = some rX9_isLetter := rfl
set_option maxRecDepth 100000 in
theorem okX9_isLetter : cokMC rX9_isLetter KX9_isLetter = true := cokMC_of [] (fun _ h => absurd h List.not_mem_nil) (by decide +kernel) (by decide +kernel)
def KX9_isDigit_0 : List RI := [(.iload_n 0, 1, 0, 0, []), (.bipush 48, 2, 0, 0, []), (.if_icmp .lt 13, 3, 0, 16, [])]
def KX9_isDigit_6 : List RI := [(.iload_n 0, 1, 0, 0, []), (.bipush 57, 2, 0, 0, []), (.if_icmp .gt 7, 3, 0, 16, [])]
def KX9_isDigit_12 : List RI := [(.iconst 1, 1, 0, 0, []), (.goto 4, 3, 0, 17, [])]
def KX9_isDigit_16 : List RI := [(.iconst 0, 1, 0, 0, [])]
def KX9_isDigit_17 : List RI := [(.ireturn, 1, 2, 0, [])]
def KX9_isDigit : RB := [(0, KX9_isDigit_0), (6, KX9_isDigit_6), (12, KX9_isDigit_12), (16, KX9_isDigit_16), (17, KX9_isDigit_17)]
def rX9_isDigit : CmC := (yX9_isDigit, cX9_isDigit, 1, (some .boolean), 1, 10, true)
theorem hX9_isDigit : mtC[193]? = some rX9_isDigit := rfl
set_option maxRecDepth 100000 in
theorem okX9_isDigit : cokMC rX9_isDigit KX9_isDigit = true := cokMC_of [] (fun _ h => absurd h List.not_mem_nil) (by decide +kernel) (by decide +kernel)
def KX9_cutName_0 : List RI := [(.iload_n 1, 1, 0, 1, []), (.istore_n 2, 1, 0, 2, []), (.lconst 0, 1, 0, 0, []), (.lstore_n 3, 1, 0, 3, [])]
def KX9_cutName_4 : List RI := [(.iload_n 2, 1, 0, 2, []), (.aload_n 0, 1, 0, 0, []), (.getfield 57, 3, 0, 308, []), (.if_icmp .ge 41, 3, 0, 50, [])]
def KX9_cutName_12 : List RI := [(.aload_n 0, 1, 0, 0, []), (.iload_n 2, 1, 0, 2, []), (.invokevirtual 70, 3, 1, 189, [(0, 0), (0, 0), (0, 0), (0, 0), (0, 0), (0, 0), (0, 0), (0, 0), (0, 0), (0, 0)]), (.invokestatic 73, 3, 1, 192, []), (.ifCond .ne 14, 3, 0, 34, [])]
def KX9_cutName_23 : List RI := [(.aload_n 0, 1, 0, 0, []), (.iload_n 2, 1, 0, 2, []), (.invokevirtual 70, 3, 1, 189, [(0, 0), (0, 0), (0, 0), (0, 0), (0, 0), (0, 0), (0, 0), (0, 0), (0, 0), (0, 0)]), (.invokestatic 80, 3, 1, 193, []), (.ifCond .eq 19, 3, 0, 50, [])]
def KX9_cutName_34 : List RI := [(.lload_n 3, 1, 0, 3, []), (.aload_n 0, 1, 0, 0, []), (.iload_n 2, 1, 0, 2, []), (.invokevirtual 70, 3, 1, 189, [(0, 0), (0, 0), (0, 0), (0, 0), (0, 0), (0, 0), (0, 0), (0, 0), (0, 0), (0, 0)]), (.invokestatic 47, 3, 2, 185, []), (.lstore_n 3, 1, 0, 3, []), (.iinc 2 1, 3, 0, 0, []), (.goto (-43), 3, 0, 4, [])]
def KX9_cutName_50 : List RI := [(.iload_n 2, 1, 0, 2, []), (.iload_n 1, 1, 0, 1, []), (.isub, 1, 0, 0, []), (.bipush 10, 2, 0, 0, []), (.if_icmp .le 5, 3, 0, 60, [])]
def KX9_cutName_58 : List RI := [(.iconst 0, 1, 0, 0, []), (.ireturn, 1, 1, 0, [])]
def KX9_cutName_60 : List RI := [(.aload_n 0, 1, 0, 0, []), (.getfield 18, 3, 0, 302, []), (.aload_n 0, 1, 0, 0, []), (.getfield 60, 3, 0, 305, []), (.bipush 80, 2, 0, 0, []), (.iastore, 1, 0, 0, []), (.aload_n 0, 1, 0, 0, []), (.getfield 24, 3, 0, 304, []), (.aload_n 0, 1, 0, 0, []), (.getfield 60, 3, 0, 305, []), (.lload_n 3, 1, 0, 3, []), (.lastore, 1, 0, 0, []), (.iconst 0, 1, 0, 0, []), (.istore 5, 2, 0, 0, [])]
def KX9_cutName_84 : List RI := [(.iload 5, 2, 0, 0, []), (.bipush 24, 2, 0, 0, []), (.if_icmp .ge 35, 3, 0, 123, [])]
def KX9_cutName_91 : List RI := [(.aload_n 0, 1, 0, 0, []), (.getfield 28, 3, 0, 306, []), (.iload 5, 2, 0, 0, []), (.laload, 1, 0, 0, []), (.lload_n 3, 1, 0, 3, []), (.lcmp, 1, 0, 0, []), (.ifCond .ne 17, 3, 0, 117, [])]
def KX9_cutName_103 : List RI := [(.aload_n 0, 1, 0, 0, []), (.getfield 18, 3, 0, 302, []), (.aload_n 0, 1, 0, 0, []), (.getfield 60, 3, 0, 305, []), (.bipush 50, 2, 0, 0, []), (.iload 5, 2, 0, 0, []), (.iadd, 1, 0, 0, []), (.iastore, 1, 0, 0, [])]
def KX9_cutName_117 : List RI := [(.iinc 5 1, 3, 0, 0, []), (.goto (-36), 3, 0, 84, [])]
def KX9_cutName_123 : List RI := [(.iload_n 2, 1, 0, 2, []), (.iload_n 1, 1, 0, 1, []), (.isub, 1, 0, 0, []), (.ireturn, 1, 1, 0, [])]
def KX9_cutName : RB := [(0, KX9_cutName_0), (4, KX9_cutName_4), (12, KX9_cutName_12), (23, KX9_cutName_23), (34, KX9_cutName_34), (50, KX9_cutName_50), (58, KX9_cutName_58), (60, KX9_cutName_60), (84, KX9_cutName_84), (91, KX9_cutName_91), (103, KX9_cutName_103), (117, KX9_cutName_117), (123, KX9_cutName_123)]
def rX9_cutName : CmC := (yX9_cutName, cX9_cutName, 6, (some .int), 1, 10, false)
theorem hX9_cutName : mtC[194]? = some rX9_cutName := rfl
set_option maxRecDepth 100000 in
theorem okX9_cutName : cokMC rX9_cutName KX9_cutName = true := cokMC_of [] (fun _ h => absurd h List.not_mem_nil) (by decide +kernel) (by decide +kernel)
def KX9_cutNumber_0 : List RI := [(.iload_n 1, 1, 0, 1, []), (.istore_n 2, 1, 0, 2, []), (.lconst 0, 1, 0, 0, []), (.lstore_n 3, 1, 0, 3, [])]
def KX9_cutNumber_4 : List RI := [(.iload_n 2, 1, 0, 2, []), (.aload_n 0, 1, 0, 0, []), (.getfield 57, 3, 0, 308, []), (.if_icmp .ge 36, 3, 0, 45, [])]
def KX9_cutNumber_12 : List RI := [(.aload_n 0, 1, 0, 0, []), (.iload_n 2, 1, 0, 2, []), (.invokevirtual 70, 3, 1, 189, [(0, 0), (0, 0), (0, 0), (0, 0), (0, 0), (0, 0), (0, 0), (0, 0), (0, 0), (0, 0)]), (.invokestatic 80, 3, 1, 193, []), (.ifCond .eq 25, 3, 0, 45, [])]
def KX9_cutNumber_23 : List RI := [(.lload_n 3, 1, 0, 3, []), (.ldc2_w 92, 3, 10, 0, []), (.lmul, 1, 0, 0, []), (.aload_n 0, 1, 0, 0, []), (.iload_n 2, 1, 0, 2, []), (.invokevirtual 70, 3, 1, 189, [(0, 0), (0, 0), (0, 0), (0, 0), (0, 0), (0, 0), (0, 0), (0, 0), (0, 0), (0, 0)]), (.bipush 48, 2, 0, 0, []), (.isub, 1, 0, 0, []), (.i2l, 1, 0, 0, []), (.ladd, 1, 0, 0, []), (.lstore_n 3, 1, 0, 3, []), (.iinc 2 1, 3, 0, 0, []), (.goto (-38), 3, 0, 4, [])]
def KX9_cutNumber_45 : List RI := [(.iload_n 2, 1, 0, 2, []), (.iload_n 1, 1, 0, 1, []), (.isub, 1, 0, 0, []), (.bipush 19, 2, 0, 0, []), (.if_icmp .le 5, 3, 0, 55, [])]
def KX9_cutNumber_53 : List RI := [(.iconst 0, 1, 0, 0, []), (.ireturn, 1, 1, 0, [])]
def KX9_cutNumber_55 : List RI := [(.aload_n 0, 1, 0, 0, []), (.getfield 24, 3, 0, 304, []), (.aload_n 0, 1, 0, 0, []), (.getfield 60, 3, 0, 305, []), (.lload_n 3, 1, 0, 3, []), (.lastore, 1, 0, 0, []), (.aload_n 0, 1, 0, 0, []), (.getfield 18, 3, 0, 302, []), (.aload_n 0, 1, 0, 0, []), (.getfield 60, 3, 0, 305, []), (.bipush 81, 2, 0, 0, []), (.iastore, 1, 0, 0, []), (.aload_n 0, 1, 0, 0, []), (.iload_n 2, 1, 0, 2, []), (.invokevirtual 70, 3, 1, 189, [(0, 0), (0, 0), (0, 0), (0, 0), (0, 0), (0, 0), (0, 0), (0, 0), (0, 0), (0, 0)]), (.bipush 76, 2, 0, 0, []), (.if_icmp .ne 17, 3, 0, 100, [])]
def KX9_cutNumber_86 : List RI := [(.aload_n 0, 1, 0, 0, []), (.getfield 18, 3, 0, 302, []), (.aload_n 0, 1, 0, 0, []), (.getfield 60, 3, 0, 305, []), (.bipush 82, 2, 0, 0, []), (.iastore, 1, 0, 0, []), (.iinc 2 1, 3, 0, 0, [])]
def KX9_cutNumber_100 : List RI := [(.iload_n 2, 1, 0, 2, []), (.iload_n 1, 1, 0, 1, []), (.isub, 1, 0, 0, []), (.ireturn, 1, 1, 0, [])]
def KX9_cutNumber : RB := [(0, KX9_cutNumber_0), (4, KX9_cutNumber_4), (12, KX9_cutNumber_12), (23, KX9_cutNumber_23), (45, KX9_cutNumber_45), (53, KX9_cutNumber_53), (55, KX9_cutNumber_55), (86, KX9_cutNumber_86), (100, KX9_cutNumber_100)]
def rX9_cutNumber : CmC := (yX9_cutNumber, cX9_cutNumber, 5, (some .int), 1, 10, false)
theorem hX9_cutNumber : mtC[195]? = some rX9_cutNumber := rfl
set_option maxRecDepth 100000 in
theorem okX9_cutNumber : cokMC rX9_cutNumber KX9_cutNumber = true := cokMC_of [] (fun _ h => absurd h List.not_mem_nil) (by decide +kernel) (by decide +kernel)
def KX9_cutCharacter_0 : List RI := [(.aload_n 0, 1, 0, 0, []), (.iload_n 1, 1, 0, 1, []), (.iconst 1, 1, 0, 0, []), (.iadd, 1, 0, 0, []), (.invokevirtual 70, 3, 1, 189, [(0, 0), (0, 0), (0, 0), (0, 0), (0, 0), (0, 0), (0, 0), (0, 0), (0, 0), (0, 0)]), (.istore_n 2, 1, 0, 2, []), (.iload_n 2, 1, 0, 2, []), (.bipush 32, 2, 0, 0, []), (.if_icmp .lt 33, 3, 0, 44, [])]
def KX9_cutCharacter_14 : List RI := [(.iload_n 2, 1, 0, 2, []), (.bipush 126, 2, 0, 0, []), (.if_icmp .gt 27, 3, 0, 44, [])]
def KX9_cutCharacter_20 : List RI := [(.iload_n 2, 1, 0, 2, []), (.bipush 39, 2, 0, 0, []), (.if_icmp .eq 21, 3, 0, 44, [])]
def KX9_cutCharacter_26 : List RI := [(.iload_n 2, 1, 0, 2, []), (.bipush 92, 2, 0, 0, []), (.if_icmp .eq 15, 3, 0, 44, [])]
def KX9_cutCharacter_32 : List RI := [(.aload_n 0, 1, 0, 0, []), (.iload_n 1, 1, 0, 1, []), (.iconst 2, 1, 0, 0, []), (.iadd, 1, 0, 0, []), (.invokevirtual 70, 3, 1, 189, [(0, 0), (0, 0), (0, 0), (0, 0), (0, 0), (0, 0), (0, 0), (0, 0), (0, 0), (0, 0)]), (.bipush 39, 2, 0, 0, []), (.if_icmp .eq 5, 3, 0, 46, [])]
def KX9_cutCharacter_44 : List RI := [(.iconst 0, 1, 0, 0, []), (.ireturn, 1, 1, 0, [])]
def KX9_cutCharacter_46 : List RI := [(.aload_n 0, 1, 0, 0, []), (.getfield 18, 3, 0, 302, []), (.aload_n 0, 1, 0, 0, []), (.getfield 60, 3, 0, 305, []), (.bipush 83, 2, 0, 0, []), (.iastore, 1, 0, 0, []), (.aload_n 0, 1, 0, 0, []), (.getfield 24, 3, 0, 304, []), (.aload_n 0, 1, 0, 0, []), (.getfield 60, 3, 0, 305, []), (.iload_n 2, 1, 0, 2, []), (.i2l, 1, 0, 0, []), (.lastore, 1, 0, 0, []), (.iconst 3, 1, 0, 0, []), (.ireturn, 1, 1, 0, [])]
def KX9_cutCharacter : RB := [(0, KX9_cutCharacter_0), (14, KX9_cutCharacter_14), (20, KX9_cutCharacter_20), (26, KX9_cutCharacter_26), (32, KX9_cutCharacter_32), (44, KX9_cutCharacter_44), (46, KX9_cutCharacter_46)]
def rX9_cutCharacter : CmC := (yX9_cutCharacter, cX9_cutCharacter, 3, (some .int), 1, 10, false)
theorem hX9_cutCharacter : mtC[196]? = some rX9_cutCharacter := rfl
set_option maxRecDepth 100000 in
theorem okX9_cutCharacter : cokMC rX9_cutCharacter KX9_cutCharacter = true := cokMC_of [] (fun _ h => absurd h List.not_mem_nil) (by decide +kernel) (by decide +kernel)
def KX9_cutSign_0 : List RI := [(.iconst 0, 1, 0, 0, []), (.istore_n 2, 1, 0, 2, []), (.iconst 0, 1, 0, 0, []), (.istore_n 3, 1, 0, 3, []), (.iconst 0, 1, 0, 0, []), (.istore 4, 2, 0, 0, []), (.iconst 0, 1, 0, 0, []), (.istore 5, 2, 0, 0, [])]
def KX9_cutSign_10 : List RI := [(.iload 5, 2, 0, 0, []), (.ldc 94, 2, 0, 1000006, []), (.invokevirtual 37, 3, 0, 239, [(0, 0), (0, 0), (0, 0), (0, 0), (0, 0), (0, 0), (0, 0), (0, 0), (0, 0), (0, 0), (0, 0), (0, 0), (0, 0)]), (.if_icmp .gt 77, 3, 0, 94, [])]
def KX9_cutSign_20 : List RI := [(.iload 5, 2, 0, 0, []), (.ldc 94, 2, 0, 1000006, []), (.invokevirtual 37, 3, 0, 239, [(0, 0), (0, 0), (0, 0), (0, 0), (0, 0), (0, 0), (0, 0), (0, 0), (0, 0), (0, 0), (0, 0), (0, 0), (0, 0)]), (.if_icmp .eq 15, 3, 0, 42, [])]
def KX9_cutSign_30 : List RI := [(.ldc 94, 2, 0, 1000006, []), (.iload 5, 2, 0, 0, []), (.invokevirtual 43, 3, 1, 238, [(0, 0), (0, 0), (0, 0), (0, 0), (0, 0), (0, 0), (0, 0), (0, 0), (0, 0), (0, 0), (0, 0), (0, 0), (0, 0)]), (.bipush 32, 2, 0, 0, []), (.if_icmp .ne 49, 3, 0, 88, [])]
def KX9_cutSign_42 : List RI := [(.iload 5, 2, 0, 0, []), (.iload 4, 2, 0, 0, []), (.isub, 1, 0, 0, []), (.iload_n 2, 1, 0, 2, []), (.if_icmp .le 31, 3, 0, 79, [])]
def KX9_cutSign_51 : List RI := [(.aload_n 0, 1, 0, 0, []), (.iload 4, 2, 0, 0, []), (.iload 5, 2, 0, 0, []), (.iload_n 1, 1, 0, 1, []), (.invokevirtual 96, 3, 3, 198, [(0, 0), (0, 0), (0, 0), (0, 0), (0, 0), (0, 0), (0, 0), (0, 0), (0, 0), (0, 0)]), (.ifCond .eq 19, 3, 0, 79, [])]
def KX9_cutSign_63 : List RI := [(.iload 5, 2, 0, 0, []), (.iload 4, 2, 0, 0, []), (.isub, 1, 0, 0, []), (.istore_n 2, 1, 0, 2, []), (.aload_n 0, 1, 0, 0, []), (.getfield 18, 3, 0, 302, []), (.aload_n 0, 1, 0, 0, []), (.getfield 60, 3, 0, 305, []), (.iload_n 3, 1, 0, 3, []), (.iastore, 1, 0, 0, [])]
def KX9_cutSign_79 : List RI := [(.iload 5, 2, 0, 0, []), (.iconst 1, 1, 0, 0, []), (.iadd, 1, 0, 0, []), (.istore 4, 2, 0, 0, []), (.iinc 3 1, 3, 0, 0, [])]
def KX9_cutSign_88 : List RI := [(.iinc 5 1, 3, 0, 0, []), (.goto (-81), 3, 0, 10, [])]
def KX9_cutSign_94 : List RI := [(.iload_n 2, 1, 0, 2, []), (.ireturn, 1, 1, 0, [])]
def KX9_cutSign : RB := [(0, KX9_cutSign_0), (10, KX9_cutSign_10), (20, KX9_cutSign_20), (30, KX9_cutSign_30), (42, KX9_cutSign_42), (51, KX9_cutSign_51), (63, KX9_cutSign_63), (79, KX9_cutSign_79), (88, KX9_cutSign_88), (94, KX9_cutSign_94)]
def rX9_cutSign : CmC := (yX9_cutSign, cX9_cutSign, 6, (some .int), 1, 10, false)
theorem hX9_cutSign : mtC[197]? = some rX9_cutSign := rfl
set_option maxRecDepth 100000 in
theorem okX9_cutSign : cokMC rX9_cutSign KX9_cutSign = true := cokMC_of [] (fun _ h => absurd h List.not_mem_nil) (by decide +kernel) (by decide +kernel)
def KX9_standsThere_0 : List RI := [(.iload_n 1, 1, 0, 1, []), (.istore 4, 2, 0, 0, [])]
def KX9_standsThere_3 : List RI := [(.iload 4, 2, 0, 0, []), (.iload_n 2, 1, 0, 2, []), (.if_icmp .ge 31, 3, 0, 37, [])]
def KX9_standsThere_9 : List RI := [(.ldc 94, 2, 0, 1000006, []), (.iload 4, 2, 0, 0, []), (.invokevirtual 43, 3, 1, 238, [(0, 0), (0, 0), (0, 0), (0, 0), (0, 0), (0, 0), (0, 0), (0, 0), (0, 0), (0, 0), (0, 0), (0, 0), (0, 0)]), (.aload_n 0, 1, 0, 0, []), (.iload_n 3, 1, 0, 3, []), (.iload 4, 2, 0, 0, []), (.iadd, 1, 0, 0, []), (.iload_n 1, 1, 0, 1, []), (.isub, 1, 0, 0, []), (.invokevirtual 70, 3, 1, 189, [(0, 0), (0, 0), (0, 0), (0, 0), (0, 0), (0, 0), (0, 0), (0, 0), (0, 0), (0, 0)]), (.if_icmp .eq 5, 3, 0, 31, [])]
def KX9_standsThere_29 : List RI := [(.iconst 0, 1, 0, 0, []), (.ireturn, 1, 2, 0, [])]
def KX9_standsThere_31 : List RI := [(.iinc 4 1, 3, 0, 0, []), (.goto (-31), 3, 0, 3, [])]
def KX9_standsThere_37 : List RI := [(.iconst 1, 1, 0, 0, []), (.ireturn, 1, 2, 0, [])]
def KX9_standsThere : RB := [(0, KX9_standsThere_0), (3, KX9_standsThere_3), (9, KX9_standsThere_9), (29, KX9_standsThere_29), (31, KX9_standsThere_31), (37, KX9_standsThere_37)]
def rX9_standsThere : CmC := (yX9_standsThere, cX9_standsThere, 5, (some .boolean), 3, 10, false)
theorem hX9_standsThere : mtC[198]? = some rX9_standsThere := rfl
set_option maxRecDepth 100000 in
theorem okX9_standsThere : cokMC rX9_standsThere KX9_standsThere = true := cokMC_of [] (fun _ h => absurd h List.not_mem_nil) (by decide +kernel) (by decide +kernel)
def KX10_init_0 : List RI := [(.aload_n 0, 1, 0, 0, []), (.invokespecial 1, 3, 0, 9999, []), (.aload_n 0, 1, 0, 0, []), (.iload_n 1, 1, 0, 1, []), (.putfield 7, 3, 0, 330, []), (.aload_n 0, 1, 0, 0, []), (.iload_n 2, 1, 0, 2, []), (.putfield 13, 3, 0, 331, []), (.aload_n 0, 1, 0, 0, []), (.iload_n 3, 1, 0, 3, []), (.putfield 16, 3, 0, 332, []), (.aload_n 0, 1, 0, 0, []), (.iload 4, 2, 0, 0, []), (.putfield 20, 3, 0, 333, []), (.return_, 1, 0, 0, [])]
def KX10_init : RB := [(0, KX10_init_0)]
def rX10_init : CmC := (yX10_init, cX10_init, 5, none, 4, 11, false)
theorem hX10_init : mtC[199]? = some rX10_init := rfl
set_option maxRecDepth 100000 in
theorem okX10_init : cokMC rX10_init KX10_init = true := cokMC_of [] (fun _ h => absurd h List.not_mem_nil) (by decide +kernel) (by decide +kernel)

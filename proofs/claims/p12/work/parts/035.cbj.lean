def KX11_strength_0 : List RI := [(.iload_n 0, 1, 0, 0, []), (.ifCond .lt 19, 3, 0, 20, [])]
def KX11_strength_4 : List RI := [(.iload_n 0, 1, 0, 0, []), (.getstatic 210, 3, 0, 1000001, []), (.arraylength, 1, 0, 0, []), (.if_icmp .ge 11, 3, 0, 20, [])]
def KX11_strength_12 : List RI := [(.getstatic 210, 3, 0, 1000001, []), (.iload_n 0, 1, 0, 0, []), (.iaload, 1, 0, 0, []), (.goto 4, 3, 0, 21, [])]
def KX11_strength_20 : List RI := [(.iconst 0, 1, 0, 0, [])]
def KX11_strength_21 : List RI := [(.ireturn, 1, 1, 0, [])]
def KX11_strength : RB := [(0, KX11_strength_0), (4, KX11_strength_4), (12, KX11_strength_12), (20, KX11_strength_20), (21, KX11_strength_21)]
def rX11_strength : CmC := (yX11_strength, cX11_strength, 1, (some .int), 1, 12, true)
set_option maxRecDepth 100000 in
theorem hX11_strength : mtC[225]? = some rX11_strength := rfl
set_option maxRecDepth 100000 in
theorem okX11_strength : cokMC rX11_strength KX11_strength = true := by decide +kernel
def KX11_operatorOf_0 : List RI := [(.iload_n 0, 1, 0, 0, []), (.bipush 8, 2, 0, 0, []), (.isub, 1, 0, 0, []), (.iconst 1, 1, 0, 0, []), (.isub, 1, 0, 0, []), (.istore_n 1, 1, 0, 1, []), (.iload_n 1, 1, 0, 1, []), (.ifCond .lt 19, 3, 0, 27, [])]
def KX11_operatorOf_11 : List RI := [(.iload_n 1, 1, 0, 1, []), (.getstatic 213, 3, 0, 1000002, []), (.arraylength, 1, 0, 0, []), (.if_icmp .ge 11, 3, 0, 27, [])]
def KX11_operatorOf_19 : List RI := [(.getstatic 213, 3, 0, 1000002, []), (.iload_n 1, 1, 0, 1, []), (.iaload, 1, 0, 0, []), (.goto 4, 3, 0, 28, [])]
def KX11_operatorOf_27 : List RI := [(.iload_n 0, 1, 0, 0, [])]
def KX11_operatorOf_28 : List RI := [(.ireturn, 1, 1, 0, [])]
def KX11_operatorOf : RB := [(0, KX11_operatorOf_0), (11, KX11_operatorOf_11), (19, KX11_operatorOf_19), (27, KX11_operatorOf_27), (28, KX11_operatorOf_28)]
def rX11_operatorOf : CmC := (yX11_operatorOf, cX11_operatorOf, 2, (some .int), 1, 12, true)
set_option maxRecDepth 100000 in
theorem hX11_operatorOf : mtC[226]? = some rX11_operatorOf := rfl
set_option maxRecDepth 100000 in
theorem okX11_operatorOf : cokMC rX11_operatorOf KX11_operatorOf = true := by decide +kernel
def KJx4a65c_init_da8c8_0 : List RI := [(.aload_n 0, 1, 0, 0, []), (.invokespecial 1, 3, 0, 250, []), (.aload_n 0, 1, 0, 0, []), (.getstatic 39, 3, 0, 1000000, []), (.putfield 9, 3, 0, 1, []), (.return_, 1, 0, 0, [])]
def KJx4a65c_init_da8c8 : RB := [(0, KJx4a65c_init_da8c8_0)]
def rJx4a65c_init_da8c8 : CmC := (yJx4a65c_init_da8c8, cJx4a65c_init_da8c8, 1, none, 0, 0, false)
set_option maxRecDepth 100000 in
theorem hJx4a65c_init_da8c8 : mtC[233]? = some rJx4a65c_init_da8c8 := rfl
set_option maxRecDepth 100000 in
theorem okJx4a65c_init_da8c8 : cokMC rJx4a65c_init_da8c8 KJx4a65c_init_da8c8 = true := by decide +kernel
def KJx4a65c_size_8abf5_0 : List RI := [(.aload_n 0, 1, 0, 0, []), (.getfield 48, 3, 0, 2, []), (.ireturn, 1, 1, 0, [])]
def KJx4a65c_size_8abf5 : RB := [(0, KJx4a65c_size_8abf5_0)]
def rJx4a65c_size_8abf5 : CmC := (yJx4a65c_size_8abf5, cJx4a65c_size_8abf5, 1, (some .int), 0, 0, false)
set_option maxRecDepth 100000 in
theorem hJx4a65c_size_8abf5 : mtC[234]? = some rJx4a65c_size_8abf5 := rfl
set_option maxRecDepth 100000 in
theorem okJx4a65c_size_8abf5 : cokMC rJx4a65c_size_8abf5 KJx4a65c_size_8abf5 = true := by decide +kernel
def KJx4a65c_get_915e3_0 : List RI := [(.iload_n 1, 1, 0, 1, []), (.aload_n 0, 1, 0, 0, []), (.getfield 48, 3, 0, 2, []), (.invokestatic 118, 3, 2, 247, []), (.pop, 1, 0, 0, []), (.aload_n 0, 1, 0, 0, []), (.iload_n 1, 1, 0, 1, []), (.invokevirtual 123, 3, 1, 241, []), (.areturn, 1, 0, 0, [])]
def KJx4a65c_get_915e3 : RB := [(0, KJx4a65c_get_915e3_0)]
def rJx4a65c_get_915e3 : CmC := (yJx4a65c_get_915e3, cJx4a65c_get_915e3, 2, (some (.object "java/lang/Object")), 1, 0, false)
set_option maxRecDepth 100000 in
theorem hJx4a65c_get_915e3 : mtC[235]? = some rJx4a65c_get_915e3 := rfl
set_option maxRecDepth 100000 in
theorem okJx4a65c_get_915e3 : cokMC rJx4a65c_get_915e3 KJx4a65c_get_915e3 = true := by decide +kernel
def KJx4a65c_add_9ea2d_0 : List RI := [(.aload_n 0, 1, 0, 0, []), (.dup, 1, 0, 0, []), (.getfield 63, 3, 0, 0, []), (.iconst 1, 1, 0, 0, []), (.iadd, 1, 0, 0, []), (.putfield 63, 3, 0, 0, []), (.aload_n 0, 1, 0, 0, []), (.aload_n 1, 1, 0, 1, []), (.aload_n 0, 1, 0, 0, []), (.getfield 9, 3, 0, 1, []), (.aload_n 0, 1, 0, 0, []), (.getfield 48, 3, 0, 2, []), (.invokevirtual 131, 3, 3, 242, []), (.iconst 1, 1, 0, 0, []), (.ireturn, 1, 2, 0, [])]
def KJx4a65c_add_9ea2d : RB := [(0, KJx4a65c_add_9ea2d_0)]
def rJx4a65c_add_9ea2d : CmC := (yJx4a65c_add_9ea2d, cJx4a65c_add_9ea2d, 2, (some .boolean), 1, 0, false)
set_option maxRecDepth 100000 in
theorem hJx4a65c_add_9ea2d : mtC[236]? = some rJx4a65c_add_9ea2d := rfl
set_option maxRecDepth 100000 in
theorem okJx4a65c_add_9ea2d : cokMC rJx4a65c_add_9ea2d KJx4a65c_add_9ea2d = true := by decide +kernel
def KJx4a65c_clear_da8c8_0 : List RI := [(.aload_n 0, 1, 0, 0, []), (.dup, 1, 0, 0, []), (.getfield 63, 3, 0, 0, []), (.iconst 1, 1, 0, 0, []), (.iadd, 1, 0, 0, []), (.putfield 63, 3, 0, 0, []), (.aload_n 0, 1, 0, 0, []), (.getfield 9, 3, 0, 1, []), (.astore_n 1, 1, 0, 1, []), (.aload_n 0, 1, 0, 0, []), (.getfield 48, 3, 0, 2, []), (.istore_n 2, 1, 0, 2, []), (.aload_n 0, 1, 0, 0, []), (.iconst 0, 1, 0, 0, []), (.dup_x1, 1, 0, 0, []), (.putfield 48, 3, 0, 2, []), (.istore_n 3, 1, 0, 3, [])]
def KJx4a65c_clear_da8c8_27 : List RI := [(.iload_n 3, 1, 0, 3, []), (.iload_n 2, 1, 0, 2, []), (.if_icmp .ge 13, 3, 0, 42, [])]
def KJx4a65c_clear_da8c8_32 : List RI := [(.aload_n 1, 1, 0, 1, []), (.iload_n 3, 1, 0, 3, []), (.aconst_null, 1, 0, 0, []), (.aastore, 1, 0, 0, []), (.iinc 3 1, 3, 0, 0, []), (.goto (-12), 3, 0, 27, [])]
def KJx4a65c_clear_da8c8_42 : List RI := [(.return_, 1, 0, 0, [])]
def KJx4a65c_clear_da8c8 : RB := [(0, KJx4a65c_clear_da8c8_0), (27, KJx4a65c_clear_da8c8_27), (32, KJx4a65c_clear_da8c8_32), (42, KJx4a65c_clear_da8c8_42)]
def rJx4a65c_clear_da8c8 : CmC := (yJx4a65c_clear_da8c8, cJx4a65c_clear_da8c8, 4, none, 0, 0, false)
set_option maxRecDepth 100000 in
theorem hJx4a65c_clear_da8c8 : mtC[237]? = some rJx4a65c_clear_da8c8 := rfl
set_option maxRecDepth 100000 in
theorem okJx4a65c_clear_da8c8 : cokMC rJx4a65c_clear_da8c8 KJx4a65c_clear_da8c8 = true := by decide +kernel
def KJx4a65c_elementData_915e3_0 : List RI := [(.aload_n 0, 1, 0, 0, []), (.getfield 9, 3, 0, 1, []), (.iload_n 1, 1, 0, 1, []), (.aaload, 1, 0, 0, []), (.areturn, 1, 0, 0, [])]
def KJx4a65c_elementData_915e3 : RB := [(0, KJx4a65c_elementData_915e3_0)]
def rJx4a65c_elementData_915e3 : CmC := (yJx4a65c_elementData_915e3, cJx4a65c_elementData_915e3, 2, (some (.object "java/lang/Object")), 1, 0, false)
set_option maxRecDepth 100000 in
theorem hJx4a65c_elementData_915e3 : mtC[241]? = some rJx4a65c_elementData_915e3 := rfl
set_option maxRecDepth 100000 in
theorem okJx4a65c_elementData_915e3 : cokMC rJx4a65c_elementData_915e3 KJx4a65c_elementData_915e3 = true := by decide +kernel
def KJx4a65c_add_72be8_0 : List RI := [(.iload_n 3, 1, 0, 3, []), (.aload_n 2, 1, 0, 2, []), (.arraylength, 1, 0, 0, []), (.if_icmp .ne 8, 3, 0, 11, [])]
def KJx4a65c_add_72be8_6 : List RI := [(.aload_n 0, 1, 0, 0, []), (.invokevirtual 129, 3, 0, 244, []), (.astore_n 2, 1, 0, 2, [])]
def KJx4a65c_add_72be8_11 : List RI := [(.aload_n 2, 1, 0, 2, []), (.iload_n 3, 1, 0, 3, []), (.aload_n 1, 1, 0, 1, []), (.aastore, 1, 0, 0, []), (.aload_n 0, 1, 0, 0, []), (.iload_n 3, 1, 0, 3, []), (.iconst 1, 1, 0, 0, []), (.iadd, 1, 0, 0, []), (.putfield 48, 3, 0, 2, []), (.return_, 1, 0, 0, [])]
def KJx4a65c_add_72be8 : RB := [(0, KJx4a65c_add_72be8_0), (6, KJx4a65c_add_72be8_6), (11, KJx4a65c_add_72be8_11)]
def rJx4a65c_add_72be8 : CmC := (yJx4a65c_add_72be8, cJx4a65c_add_72be8, 4, none, 3, 0, false)
set_option maxRecDepth 100000 in
theorem hJx4a65c_add_72be8 : mtC[242]? = some rJx4a65c_add_72be8 := rfl
set_option maxRecDepth 100000 in
theorem okJx4a65c_add_72be8 : cokMC rJx4a65c_add_72be8 KJx4a65c_add_72be8 = true := by decide +kernel
def KJx4a65c_grow_92f84_0 : List RI := [(.aload_n 0, 1, 0, 0, []), (.getfield 9, 3, 0, 1, []), (.arraylength, 1, 0, 0, []), (.istore_n 2, 1, 0, 2, []), (.iload_n 2, 1, 0, 2, []), (.ifCond .gt 13, 3, 0, 20, [])]
def KJx4a65c_grow_92f84_10 : List RI := [(.aload_n 0, 1, 0, 0, []), (.getfield 9, 3, 0, 1, []), (.getstatic 39, 3, 0, 1000000, []), (.if_acmp .eq 28, 3, 0, 45, [])]
def KJx4a65c_grow_92f84_20 : List RI := [(.iload_n 2, 1, 0, 2, []), (.iload_n 1, 1, 0, 1, []), (.iload_n 2, 1, 0, 2, []), (.isub, 1, 0, 0, []), (.iload_n 2, 1, 0, 2, []), (.iconst 1, 1, 0, 0, []), (.ishr, 1, 0, 0, []), (.invokestatic 73, 3, 3, 249, []), (.istore_n 3, 1, 0, 3, []), (.aload_n 0, 1, 0, 0, []), (.aload_n 0, 1, 0, 0, []), (.getfield 9, 3, 0, 1, []), (.iload_n 3, 1, 0, 3, []), (.invokestatic 66, 3, 2, 245, []), (.dup_x1, 1, 0, 0, []), (.putfield 9, 3, 0, 1, []), (.areturn, 1, 0, 0, [])]
def KJx4a65c_grow_92f84_45 : List RI := [(.aload_n 0, 1, 0, 0, []), (.bipush 10, 2, 0, 0, []), (.iload_n 1, 1, 0, 1, []), (.invokestatic 79, 3, 2, 9995, []), (.anewarray 7, 3, 0, 103, []), (.dup_x1, 1, 0, 0, []), (.putfield 9, 3, 0, 1, []), (.areturn, 1, 0, 0, [])]
def KJx4a65c_grow_92f84 : RB := [(0, KJx4a65c_grow_92f84_0), (10, KJx4a65c_grow_92f84_10), (20, KJx4a65c_grow_92f84_20), (45, KJx4a65c_grow_92f84_45)]
def rJx4a65c_grow_92f84 : CmC := (yJx4a65c_grow_92f84, cJx4a65c_grow_92f84, 4, (some (.array (.object "java/lang/Object"))), 1, 0, false)
set_option maxRecDepth 100000 in
theorem hJx4a65c_grow_92f84 : mtC[243]? = some rJx4a65c_grow_92f84 := rfl
set_option maxRecDepth 100000 in
theorem okJx4a65c_grow_92f84 : cokMC rJx4a65c_grow_92f84 KJx4a65c_grow_92f84 = true := by decide +kernel
def KJx4a65c_grow_d5877_0 : List RI := [(.aload_n 0, 1, 0, 0, []), (.aload_n 0, 1, 0, 0, []), (.getfield 48, 3, 0, 2, []), (.iconst 1, 1, 0, 0, []), (.iadd, 1, 0, 0, []), (.invokevirtual 69, 3, 1, 243, []), (.areturn, 1, 0, 0, [])]
def KJx4a65c_grow_d5877 : RB := [(0, KJx4a65c_grow_d5877_0)]
def rJx4a65c_grow_d5877 : CmC := (yJx4a65c_grow_d5877, cJx4a65c_grow_d5877, 1, (some (.array (.object "java/lang/Object"))), 0, 0, false)
set_option maxRecDepth 100000 in
theorem hJx4a65c_grow_d5877 : mtC[244]? = some rJx4a65c_grow_d5877 := rfl
set_option maxRecDepth 100000 in
theorem okJx4a65c_grow_d5877 : cokMC rJx4a65c_grow_d5877 KJx4a65c_grow_d5877 = true := by decide +kernel
def KJ7_copyOf_1904c_0 : List RI := [(.aload_n 0, 1, 0, 0, []), (.iload_n 1, 1, 0, 1, []), (.aload_n 0, 1, 0, 0, []), (.invokevirtual 86, 3, 0, 9998, []), (.invokestatic 300, 3, 3, 246, []), (.areturn, 1, 0, 0, [])]
def KJ7_copyOf_1904c : RB := [(0, KJ7_copyOf_1904c_0)]
def rJ7_copyOf_1904c : CmC := (yJ7_copyOf_1904c, cJ7_copyOf_1904c, 2, (some (.array (.object "java/lang/Object"))), 2, 16, true)
set_option maxRecDepth 100000 in
theorem hJ7_copyOf_1904c : mtC[245]? = some rJ7_copyOf_1904c := rfl
set_option maxRecDepth 100000 in
theorem okJ7_copyOf_1904c : cokMC rJ7_copyOf_1904c KJ7_copyOf_1904c = true := by decide +kernel
def KJ7_copyOf_6403c_0 : List RI := [(.aload_n 2, 1, 0, 2, []), (.ldc 110, 2, 0, 1000011, []), (.if_acmp .ne 10, 3, 0, 13, [])]
def KJ7_copyOf_6403c_6 : List RI := [(.iload_n 1, 1, 0, 1, []), (.anewarray 2, 3, 0, 103, []), (.goto 14, 3, 0, 24, [])]
def KJ7_copyOf_6403c_24 : List RI := [(.astore_n 3, 1, 0, 3, []), (.aload_n 0, 1, 0, 0, []), (.iconst 0, 1, 0, 0, []), (.aload_n 3, 1, 0, 3, []), (.iconst 0, 1, 0, 0, []), (.aload_n 0, 1, 0, 0, []), (.arraylength, 1, 0, 0, []), (.iload_n 1, 1, 0, 1, []), (.invokestatic 304, 3, 2, 9996, []), (.invokestatic 150, 3, 0, 9997, []), (.aload_n 3, 1, 0, 3, []), (.areturn, 1, 0, 0, [])]
def KJ7_copyOf_6403c : RB := [(0, KJ7_copyOf_6403c_0), (6, KJ7_copyOf_6403c_6), (24, KJ7_copyOf_6403c_24)]
def rJ7_copyOf_6403c : CmC := (yJ7_copyOf_6403c, cJ7_copyOf_6403c, 4, (some (.array (.object "java/lang/Object"))), 3, 16, true)
set_option maxRecDepth 100000 in
theorem hJ7_copyOf_6403c : mtC[246]? = some rJ7_copyOf_6403c := rfl
set_option maxRecDepth 100000 in
theorem okJ7_copyOf_6403c : cokMC rJ7_copyOf_6403c KJ7_copyOf_6403c = true := by decide +kernel
def KJ15_checkIndex_7cf53_0 : List RI := [(.iload_n 0, 1, 0, 0, []), (.iload_n 1, 1, 0, 1, []), (.aconst_null, 1, 0, 0, []), (.invokestatic 105, 3, 3, 248, []), (.ireturn, 1, 1, 0, [])]
def KJ15_checkIndex_7cf53 : RB := [(0, KJ15_checkIndex_7cf53_0)]
def rJ15_checkIndex_7cf53 : CmC := (yJ15_checkIndex_7cf53, cJ15_checkIndex_7cf53, 2, (some .int), 2, 17, true)
set_option maxRecDepth 100000 in
theorem hJ15_checkIndex_7cf53 : mtC[247]? = some rJ15_checkIndex_7cf53 := rfl
set_option maxRecDepth 100000 in
theorem okJ15_checkIndex_7cf53 : cokMC rJ15_checkIndex_7cf53 KJ15_checkIndex_7cf53 = true := by decide +kernel
def KJ3_checkIndex_8e157_0 : List RI := [(.iload_n 0, 1, 0, 0, []), (.ifCond .lt 8, 3, 0, 9, [])]
def KJ3_checkIndex_8e157_4 : List RI := [(.iload_n 0, 1, 0, 0, []), (.iload_n 1, 1, 0, 1, []), (.if_icmp .lt 10, 3, 0, 16, [])]
def KJ3_checkIndex_8e157_16 : List RI := [(.iload_n 0, 1, 0, 0, []), (.ireturn, 1, 1, 0, [])]
def KJ3_checkIndex_8e157 : RB := [(0, KJ3_checkIndex_8e157_0), (4, KJ3_checkIndex_8e157_4), (16, KJ3_checkIndex_8e157_16)]
def rJ3_checkIndex_8e157 : CmC := (yJ3_checkIndex_8e157, cJ3_checkIndex_8e157, 3, (some .int), 3, 18, true)
set_option maxRecDepth 100000 in
theorem hJ3_checkIndex_8e157 : mtC[248]? = some rJ3_checkIndex_8e157 := rfl
set_option maxRecDepth 100000 in
theorem okJ3_checkIndex_8e157 : cokMC rJ3_checkIndex_8e157 KJ3_checkIndex_8e157 = true := by decide +kernel
def KJ8_newLength_cabcc_0 : List RI := [(.iload_n 0, 1, 0, 0, []), (.iload_n 1, 1, 0, 1, []), (.iload_n 2, 1, 0, 2, []), (.invokestatic 194, 3, 2, 9995, []), (.iadd, 1, 0, 0, []), (.istore_n 3, 1, 0, 3, []), (.iconst 0, 1, 0, 0, []), (.iload_n 3, 1, 0, 3, []), (.if_icmp .ge 11, 3, 0, 21, [])]
def KJ8_newLength_cabcc_13 : List RI := [(.iload_n 3, 1, 0, 3, []), (.ldc 200, 2, 2147483639, 0, []), (.if_icmp .gt 5, 3, 0, 21, [])]
def KJ8_newLength_cabcc_19 : List RI := [(.iload_n 3, 1, 0, 3, []), (.ireturn, 1, 1, 0, [])]
def KJ8_newLength_cabcc : RB := [(0, KJ8_newLength_cabcc_0), (13, KJ8_newLength_cabcc_13), (19, KJ8_newLength_cabcc_19)]
def rJ8_newLength_cabcc : CmC := (yJ8_newLength_cabcc, cJ8_newLength_cabcc, 4, (some .int), 3, 19, true)
set_option maxRecDepth 100000 in
theorem hJ8_newLength_cabcc : mtC[249]? = some rJ8_newLength_cabcc := rfl
set_option maxRecDepth 100000 in
theorem okJ8_newLength_cabcc : cokMC rJ8_newLength_cabcc KJ8_newLength_cabcc = true := by decide +kernel
def KJxc12de_init_da8c8_0 : List RI := [(.aload_n 0, 1, 0, 0, []), (.invokespecial 1, 3, 0, 251, []), (.aload_n 0, 1, 0, 0, []), (.iconst 0, 1, 0, 0, []), (.putfield 7, 3, 0, 0, []), (.return_, 1, 0, 0, [])]
def KJxc12de_init_da8c8 : RB := [(0, KJxc12de_init_da8c8_0)]
def rJxc12de_init_da8c8 : CmC := (yJxc12de_init_da8c8, cJxc12de_init_da8c8, 1, none, 0, 20, false)
set_option maxRecDepth 100000 in
theorem hJxc12de_init_da8c8 : mtC[250]? = some rJxc12de_init_da8c8 := rfl
set_option maxRecDepth 100000 in
theorem okJxc12de_init_da8c8 : cokMC rJxc12de_init_da8c8 KJxc12de_init_da8c8 = true := by decide +kernel
def KJxa1e45_init_da8c8_0 : List RI := [(.aload_n 0, 1, 0, 0, []), (.invokespecial 1, 3, 0, 9999, []), (.return_, 1, 0, 0, [])]
def KJxa1e45_init_da8c8 : RB := [(0, KJxa1e45_init_da8c8_0)]
def rJxa1e45_init_da8c8 : CmC := (yJxa1e45_init_da8c8, cJxa1e45_init_da8c8, 1, none, 0, 21, false)
set_option maxRecDepth 100000 in
theorem hJxa1e45_init_da8c8 : mtC[251]? = some rJxa1e45_init_da8c8 := rfl
set_option maxRecDepth 100000 in
theorem okJxa1e45_init_da8c8 : cokMC rJxa1e45_init_da8c8 KJxa1e45_init_da8c8 = true := by decide +kernel

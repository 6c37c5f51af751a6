def mBC (own nL : Nat) (ret : Option FieldType) (ini : Bool) : List RI → Nat → Bool
  | [], _ => true
  | x :: is, pc => cok2C own nL ret ini x pc && mBC own nL ret ini is (pc + x.2.1)
theorem cokBC_of {cc : ByteArray} {own nL : Nat} {ret : Option FieldType} {ini : Bool} (is : List RI) : ∀ pc : Nat, dP cc is pc → mBC own nL ret ini is pc = true → cokBC cc own nL ret ini is pc = true := by
  induction is with
  | nil => intro pc _ _; rfl
  | cons x is ih =>
    intro pc h1 h2
    unfold mBC at h2
    rw [Bool.and_eq_true] at h2
    unfold cokBC cokC
    rw [Bool.and_eq_true, Bool.and_eq_true]
    exact ⟨⟨decide_eq_true h1.1, h2.1⟩, ih _ h1.2 h2.2⟩
theorem cokMC_of {r : CmC} {B : RB} (sw : RX) (hsw : ∀ q ∈ sw, decode r.2.1 q.1 = .ok (q.2.1, q.2.2)) (h1 : wkM sw B 0 (codeL r.2.1) = true) (h2 : B.all (fun b => mBC r.2.2.2.2.2.1 r.2.2.1 r.2.2.2.1 (decide (r.1.name = "<init>")) b.2 b.1) = true) : cokMC r B = true := by
  unfold cokMC
  rw [List.all_eq_true]
  intro b hb
  exact cokBC_of b.2 b.1 (wkM_ok hsw B 0 (codeL r.2.1) (fun j => by rw [Nat.zero_add]; exact rdN_codeL) h1 b hb) (List.all_eq_true.mp h2 b hb)
def KX0_init_0 : List RI := [(.aload_n 0, 1, 0, 0, []), (.invokespecial 3, 3, 0, 9999, []), (.aload_n 0, 1, 0, 0, []), (.sipush 1000, 3, 0, 0, []), (.newarray .int, 2, 0, 100, []), (.putfield 11, 3, 0, 30, []), (.aload_n 0, 1, 0, 0, []), (.sipush 1000, 3, 0, 0, []), (.newarray .int, 2, 0, 100, []), (.putfield 15, 3, 0, 31, []), (.aload_n 0, 1, 0, 0, []), (.sipush 1000, 3, 0, 0, []), (.anewarray 18, 3, 0, 104, []), (.putfield 20, 3, 0, 32, []), (.aload_n 0, 1, 0, 0, []), (.sipush 1000, 3, 0, 0, []), (.anewarray 24, 3, 0, 105, []), (.putfield 26, 3, 0, 33, []), (.aload_n 0, 1, 0, 0, []), (.new 24, 3, 0, 9, []), (.dup, 1, 0, 0, []), (.bipush 92, 2, 0, 0, []), (.iconst 0, 1, 0, 0, []), (.iconst 0, 1, 0, 0, []), (.aconst_null, 1, 0, 0, []), (.lconst 0, 1, 0, 0, []), (.invokespecial 30, 3, 5, 178, []), (.putfield 33, 3, 0, 36, []), (.aload_n 0, 1, 0, 0, []), (.aload_n 1, 1, 0, 1, []), (.putfield 37, 3, 0, 35, []), (.return_, 1, 0, 0, [])]
def KX0_init : RB := [(0, KX0_init_0)]
def rX0_init : CmC := (yX0_init, cX0_init, 2, none, 1, 1, false)
theorem hX0_init : mtC[0]? = some rX0_init := rfl
set_option maxRecDepth 100000 in
theorem swX0_init_8 : decode cX0_init 8 = .ok (.newarray .int, 2) := by decide +kernel
set_option maxRecDepth 100000 in
theorem swX0_init_17 : decode cX0_init 17 = .ok (.newarray .int, 2) := by decide +kernel
set_option maxRecDepth 100000 in
theorem okX0_init : cokMC rX0_init KX0_init = true := cokMC_of [(8, .newarray .int, 2), (17, .newarray .int, 2)] (fun q hq => by
  simp only [List.mem_cons, List.not_mem_nil, or_false] at hq
  rcases hq with rfl | rfl
  · exact swX0_init_8
  · exact swX0_init_17) (by decide +kernel) (by decide +kernel)
def KX0_lay_0 : List RI := [(.aload_n 0, 1, 0, 0, []), (.aload_n 1, 1, 0, 1, []), (.putfield 37, 3, 0, 35, []), (.aload_n 0, 1, 0, 0, []), (.iconst 0, 1, 0, 0, []), (.putfield 41, 3, 0, 34, []), (.iconst 0, 1, 0, 0, []), (.istore_n 2, 1, 0, 2, [])]
def KX0_lay_12 : List RI := [(.iload_n 2, 1, 0, 2, []), (.aload_n 0, 1, 0, 0, []), (.getfield 37, 3, 0, 35, []), (.getfield 45, 3, 0, 211, []), (.invokevirtual 51, 3, 0, 234, []), (.if_icmp .ge 48, 3, 0, 71, [])]
def KX0_lay_26 : List RI := [(.aload_n 0, 1, 0, 0, []), (.getfield 37, 3, 0, 35, []), (.getfield 45, 3, 0, 211, []), (.iload_n 2, 1, 0, 2, []), (.invokevirtual 56, 3, 1, 235, []), (.checkcast 60, 3, 0, 6, []), (.astore_n 3, 1, 0, 3, []), (.aload_n 0, 1, 0, 0, []), (.aload_n 3, 1, 0, 3, []), (.getfield 62, 3, 0, 186, []), (.invokevirtual 65, 3, 1, 4, [(0, 0)]), (.aload_n 0, 1, 0, 0, []), (.aload_n 3, 1, 0, 3, []), (.getfield 62, 3, 0, 186, []), (.putfield 33, 3, 0, 36, []), (.aload_n 0, 1, 0, 0, []), (.bipush 23, 2, 0, 0, []), (.aconst_null, 1, 0, 0, []), (.invokevirtual 69, 3, 2, 2, [(0, 0)]), (.pop, 1, 0, 0, []), (.iinc 2 1, 3, 0, 0, []), (.goto (-56), 3, 0, 12, [])]
def KX0_lay_71 : List RI := [(.return_, 1, 0, 0, [])]
def KX0_lay : RB := [(0, KX0_lay_0), (12, KX0_lay_12), (26, KX0_lay_26), (71, KX0_lay_71)]
def rX0_lay : CmC := (yX0_lay, cX0_lay, 4, none, 1, 1, false)
theorem hX0_lay : mtC[1]? = some rX0_lay := rfl
set_option maxRecDepth 100000 in
theorem okX0_lay : cokMC rX0_lay KX0_lay = true := cokMC_of [] (fun _ h => absurd h List.not_mem_nil) (by decide +kernel) (by decide +kernel)
def KX0_put_0 : List RI := [(.aload_n 0, 1, 0, 0, []), (.getfield 41, 3, 0, 34, []), (.sipush 1000, 3, 0, 0, []), (.if_icmp .lt 7, 3, 0, 14, [])]
def KX0_put_10 : List RI := [(.sipush 999, 3, 0, 0, []), (.ireturn, 1, 1, 0, [])]
def KX0_put_14 : List RI := [(.aload_n 0, 1, 0, 0, []), (.getfield 11, 3, 0, 30, []), (.aload_n 0, 1, 0, 0, []), (.getfield 41, 3, 0, 34, []), (.iload_n 1, 1, 0, 1, []), (.iastore, 1, 0, 0, []), (.aload_n 0, 1, 0, 0, []), (.getfield 20, 3, 0, 32, []), (.aload_n 0, 1, 0, 0, []), (.getfield 41, 3, 0, 34, []), (.aload_n 2, 1, 0, 2, []), (.aastore, 1, 0, 0, []), (.aload_n 0, 1, 0, 0, []), (.getfield 26, 3, 0, 33, []), (.aload_n 0, 1, 0, 0, []), (.getfield 41, 3, 0, 34, []), (.aload_n 0, 1, 0, 0, []), (.getfield 33, 3, 0, 36, []), (.aastore, 1, 0, 0, []), (.aload_n 0, 1, 0, 0, []), (.getfield 15, 3, 0, 31, []), (.aload_n 0, 1, 0, 0, []), (.getfield 41, 3, 0, 34, []), (.iconst 0, 1, 0, 0, []), (.iastore, 1, 0, 0, []), (.aload_n 0, 1, 0, 0, []), (.dup, 1, 0, 0, []), (.getfield 41, 3, 0, 34, []), (.iconst 1, 1, 0, 0, []), (.iadd, 1, 0, 0, []), (.putfield 41, 3, 0, 34, []), (.aload_n 0, 1, 0, 0, []), (.getfield 41, 3, 0, 34, []), (.iconst 1, 1, 0, 0, []), (.isub, 1, 0, 0, []), (.ireturn, 1, 1, 0, [])]
def KX0_put : RB := [(0, KX0_put_0), (10, KX0_put_10), (14, KX0_put_14)]
def rX0_put : CmC := (yX0_put, cX0_put, 3, (some .int), 2, 1, false)
theorem hX0_put : mtC[2]? = some rX0_put := rfl
set_option maxRecDepth 100000 in
theorem okX0_put : cokMC rX0_put KX0_put = true := cokMC_of [] (fun _ h => absurd h List.not_mem_nil) (by decide +kernel) (by decide +kernel)
def KX0_jumpTo_0 : List RI := [(.aload_n 0, 1, 0, 0, []), (.getfield 15, 3, 0, 31, []), (.aload_n 0, 1, 0, 0, []), (.iload_n 1, 1, 0, 1, []), (.aconst_null, 1, 0, 0, []), (.invokevirtual 69, 3, 2, 2, [(0, 0)]), (.iload_n 2, 1, 0, 2, []), (.iastore, 1, 0, 0, []), (.return_, 1, 0, 0, [])]
def KX0_jumpTo : RB := [(0, KX0_jumpTo_0)]
def rX0_jumpTo : CmC := (yX0_jumpTo, cX0_jumpTo, 3, none, 2, 1, false)
theorem hX0_jumpTo : mtC[3]? = some rX0_jumpTo := rfl
set_option maxRecDepth 100000 in
theorem okX0_jumpTo : cokMC rX0_jumpTo KX0_jumpTo = true := cokMC_of [] (fun _ h => absurd h List.not_mem_nil) (by decide +kernel) (by decide +kernel)
def KX0_layBody_0 : List RI := [(.aload_n 1, 1, 0, 1, []), (.aload_n 0, 1, 0, 0, []), (.getfield 41, 3, 0, 34, []), (.putfield 73, 3, 0, 289, []), (.aload_n 0, 1, 0, 0, []), (.aload_n 1, 1, 0, 1, []), (.getfield 76, 3, 0, 276, []), (.invokevirtual 77, 3, 1, 5, [(0, 0)]), (.aload_n 1, 1, 0, 1, []), (.aload_n 0, 1, 0, 0, []), (.getfield 41, 3, 0, 34, []), (.putfield 80, 3, 0, 290, []), (.return_, 1, 0, 0, [])]
def KX0_layBody : RB := [(0, KX0_layBody_0)]
def rX0_layBody : CmC := (yX0_layBody, cX0_layBody, 2, none, 1, 1, false)
theorem hX0_layBody : mtC[4]? = some rX0_layBody := rfl
set_option maxRecDepth 100000 in
theorem okX0_layBody : cokMC rX0_layBody KX0_layBody = true := cokMC_of [] (fun _ h => absurd h List.not_mem_nil) (by decide +kernel) (by decide +kernel)
def KX0_layRow_0 : List RI := [(.aload_n 1, 1, 0, 1, []), (.astore_n 2, 1, 0, 2, [])]
def KX0_layRow_2 : List RI := [(.aload_n 2, 1, 0, 2, []), (.ifnull 16, 3, 0, 19, [])]
def KX0_layRow_6 : List RI := [(.aload_n 0, 1, 0, 0, []), (.aload_n 2, 1, 0, 2, []), (.invokevirtual 83, 3, 1, 6, [(0, 0)]), (.aload_n 2, 1, 0, 2, []), (.getfield 86, 3, 0, 275, []), (.astore_n 2, 1, 0, 2, []), (.goto (-14), 3, 0, 2, [])]
def KX0_layRow_19 : List RI := [(.return_, 1, 0, 0, [])]
def KX0_layRow : RB := [(0, KX0_layRow_0), (2, KX0_layRow_2), (6, KX0_layRow_6), (19, KX0_layRow_19)]
def rX0_layRow : CmC := (yX0_layRow, cX0_layRow, 3, none, 1, 1, false)
theorem hX0_layRow : mtC[5]? = some rX0_layRow := rfl
set_option maxRecDepth 100000 in
theorem okX0_layRow : cokMC rX0_layRow KX0_layRow = true := cokMC_of [] (fun _ h => absurd h List.not_mem_nil) (by decide +kernel) (by decide +kernel)
def KX0_layStatement_0 : List RI := [(.aload_n 1, 1, 0, 1, []), (.getfield 89, 3, 0, 272, []), (.bipush 20, 2, 0, 0, []), (.if_icmp .le 4, 3, 0, 10, [])]
def KX0_layStatement_9 : List RI := [(.return_, 1, 0, 0, [])]
def KX0_layStatement_10 : List RI := [(.aload_n 0, 1, 0, 0, []), (.getfield 33, 3, 0, 36, []), (.astore_n 2, 1, 0, 2, []), (.aload_n 0, 1, 0, 0, []), (.aload_n 1, 1, 0, 1, []), (.putfield 33, 3, 0, 36, []), (.aload_n 1, 1, 0, 1, []), (.invokevirtual 92, 3, 0, 180, [(0, 0), (0, 0), (0, 0), (0, 0), (0, 0), (0, 0), (0, 0), (0, 0), (0, 0)]), (.ifCond .ne 11, 3, 0, 35, [])]
def KX0_layStatement_27 : List RI := [(.aload_n 0, 1, 0, 0, []), (.bipush 15, 2, 0, 0, []), (.aconst_null, 1, 0, 0, []), (.invokevirtual 69, 3, 2, 2, [(0, 0)]), (.pop, 1, 0, 0, [])]
def KX0_layStatement_35 : List RI := [(.aload_n 1, 1, 0, 1, []), (.aload_n 0, 1, 0, 0, []), (.getfield 41, 3, 0, 34, []), (.putfield 73, 3, 0, 289, []), (.aload_n 0, 1, 0, 0, []), (.aload_n 1, 1, 0, 1, []), (.invokevirtual 96, 3, 1, 8, [(0, 0)]), (.aload_n 1, 1, 0, 1, []), (.aload_n 0, 1, 0, 0, []), (.getfield 41, 3, 0, 34, []), (.putfield 80, 3, 0, 290, []), (.aload_n 0, 1, 0, 0, []), (.aload_n 2, 1, 0, 2, []), (.putfield 33, 3, 0, 36, []), (.return_, 1, 0, 0, [])]
def KX0_layStatement : RB := [(0, KX0_layStatement_0), (9, KX0_layStatement_9), (10, KX0_layStatement_10), (27, KX0_layStatement_27), (35, KX0_layStatement_35)]
def rX0_layStatement : CmC := (yX0_layStatement, cX0_layStatement, 3, none, 1, 1, false)
theorem hX0_layStatement : mtC[6]? = some rX0_layStatement := rfl
set_option maxRecDepth 100000 in
theorem okX0_layStatement : cokMC rX0_layStatement KX0_layStatement = true := cokMC_of [] (fun _ h => absurd h List.not_mem_nil) (by decide +kernel) (by decide +kernel)
def KX0_layInner_0 : List RI := [(.aload_n 1, 1, 0, 1, []), (.ifnull 8, 3, 0, 9, [])]
def KX0_layInner_4 : List RI := [(.aload_n 0, 1, 0, 0, []), (.aload_n 1, 1, 0, 1, []), (.invokevirtual 83, 3, 1, 6, [(0, 0)])]
def KX0_layInner_9 : List RI := [(.return_, 1, 0, 0, [])]
def KX0_layInner : RB := [(0, KX0_layInner_0), (4, KX0_layInner_4), (9, KX0_layInner_9)]
def rX0_layInner : CmC := (yX0_layInner, cX0_layInner, 2, none, 1, 1, false)
theorem hX0_layInner : mtC[7]? = some rX0_layInner := rfl
set_option maxRecDepth 100000 in
theorem okX0_layInner : cokMC rX0_layInner KX0_layInner = true := cokMC_of [] (fun _ h => absurd h List.not_mem_nil) (by decide +kernel) (by decide +kernel)
def KX0_layInside_0 : List RI := [(.aload_n 1, 1, 0, 1, []), (.getfield 99, 3, 0, 270, []), (.lookupswitch 305 #[(2, 140), (6, 151), (56, 189), (58, 197), (59, 205), (60, 213), (61, 221), (64, 256), (65, 256), (66, 267), (67, 286), (68, 248), (90, 170), (91, 162), (93, 162), (94, 170)], 140, 0, 309, [(2, 144), (6, 155), (56, 193), (58, 201), (59, 209), (60, 217), (61, 225), (64, 260), (65, 260), (66, 271), (67, 290), (68, 252), (90, 174), (91, 166), (93, 166), (94, 174)])]
def KX0_layInside_144 : List RI := [(.aload_n 0, 1, 0, 0, []), (.aload_n 1, 1, 0, 1, []), (.getfield 76, 3, 0, 276, []), (.invokevirtual 77, 3, 1, 5, [(0, 0)]), (.goto 157, 3, 0, 309, [])]
def KX0_layInside_155 : List RI := [(.aload_n 0, 1, 0, 0, []), (.aload_n 1, 1, 0, 1, []), (.getfield 76, 3, 0, 276, []), (.invokevirtual 102, 3, 1, 7, [(0, 0)]), (.goto 146, 3, 0, 309, [])]
def KX0_layInside_166 : List RI := [(.aload_n 0, 1, 0, 0, []), (.aload_n 1, 1, 0, 1, []), (.invokevirtual 105, 3, 1, 9, [(0, 0)]), (.goto 138, 3, 0, 309, [])]
def KX0_layInside_174 : List RI := [(.aload_n 0, 1, 0, 0, []), (.aload_n 1, 1, 0, 1, []), (.getfield 108, 3, 0, 279, []), (.invokevirtual 111, 3, 1, 15, [(0, 0)]), (.aload_n 0, 1, 0, 0, []), (.bipush 9, 2, 0, 0, []), (.aconst_null, 1, 0, 0, []), (.invokevirtual 69, 3, 2, 2, [(0, 0)]), (.pop, 1, 0, 0, []), (.goto 119, 3, 0, 309, [])]
def KX0_layInside_193 : List RI := [(.aload_n 0, 1, 0, 0, []), (.aload_n 1, 1, 0, 1, []), (.invokevirtual 115, 3, 1, 10, [(0, 0)]), (.goto 111, 3, 0, 309, [])]
def KX0_layInside_201 : List RI := [(.aload_n 0, 1, 0, 0, []), (.aload_n 1, 1, 0, 1, []), (.invokevirtual 118, 3, 1, 11, [(0, 0)]), (.goto 103, 3, 0, 309, [])]
def KX0_layInside_209 : List RI := [(.aload_n 0, 1, 0, 0, []), (.aload_n 1, 1, 0, 1, []), (.invokevirtual 121, 3, 1, 12, [(0, 0)]), (.goto 95, 3, 0, 309, [])]
def KX0_layInside_217 : List RI := [(.aload_n 0, 1, 0, 0, []), (.aload_n 1, 1, 0, 1, []), (.invokevirtual 124, 3, 1, 13, [(0, 0)]), (.goto 87, 3, 0, 309, [])]
def KX0_layInside_225 : List RI := [(.aload_n 0, 1, 0, 0, []), (.aload_n 1, 1, 0, 1, []), (.getfield 108, 3, 0, 279, []), (.invokevirtual 111, 3, 1, 15, [(0, 0)]), (.aload_n 0, 1, 0, 0, []), (.bipush 17, 2, 0, 0, []), (.aconst_null, 1, 0, 0, []), (.invokevirtual 69, 3, 2, 2, [(0, 0)]), (.pop, 1, 0, 0, []), (.aload_n 0, 1, 0, 0, []), (.aload_n 1, 1, 0, 1, []), (.getfield 76, 3, 0, 276, []), (.invokevirtual 77, 3, 1, 5, [(0, 0)]), (.goto 60, 3, 0, 309, [])]
def KX0_layInside_252 : List RI := [(.aload_n 0, 1, 0, 0, []), (.aload_n 1, 1, 0, 1, []), (.invokevirtual 127, 3, 1, 14, [(0, 0)]), (.goto 52, 3, 0, 309, [])]
def KX0_layInside_260 : List RI := [(.aload_n 0, 1, 0, 0, []), (.bipush 18, 2, 0, 0, []), (.aconst_null, 1, 0, 0, []), (.invokevirtual 69, 3, 2, 2, [(0, 0)]), (.pop, 1, 0, 0, []), (.goto 41, 3, 0, 309, [])]
def KX0_layInside_271 : List RI := [(.aload_n 0, 1, 0, 0, []), (.aload_n 1, 1, 0, 1, []), (.getfield 108, 3, 0, 279, []), (.invokevirtual 111, 3, 1, 15, [(0, 0)]), (.aload_n 0, 1, 0, 0, []), (.bipush 19, 2, 0, 0, []), (.aconst_null, 1, 0, 0, []), (.invokevirtual 69, 3, 2, 2, [(0, 0)]), (.pop, 1, 0, 0, []), (.goto 22, 3, 0, 309, [])]
def KX0_layInside_290 : List RI := [(.aload_n 0, 1, 0, 0, []), (.aload_n 1, 1, 0, 1, []), (.getfield 108, 3, 0, 279, []), (.invokevirtual 111, 3, 1, 15, [(0, 0)]), (.aload_n 0, 1, 0, 0, []), (.bipush 20, 2, 0, 0, []), (.aconst_null, 1, 0, 0, []), (.invokevirtual 69, 3, 2, 2, [(0, 0)]), (.pop, 1, 0, 0, []), (.goto 3, 3, 0, 309, [])]
def KX0_layInside_309 : List RI := [(.return_, 1, 0, 0, [])]
def KX0_layInside : RB := [(0, KX0_layInside_0), (144, KX0_layInside_144), (155, KX0_layInside_155), (166, KX0_layInside_166), (174, KX0_layInside_174), (193, KX0_layInside_193), (201, KX0_layInside_201), (209, KX0_layInside_209), (217, KX0_layInside_217), (225, KX0_layInside_225), (252, KX0_layInside_252), (260, KX0_layInside_260), (271, KX0_layInside_271), (290, KX0_layInside_290), (309, KX0_layInside_309)]
def rX0_layInside : CmC := (yX0_layInside, cX0_layInside, 2, none, 1, 1, false)
theorem hX0_layInside : mtC[8]? = some rX0_layInside := rfl
set_option maxRecDepth 100000 in
theorem swX0_layInside_4 : decode cX0_layInside 4 = .ok (.lookupswitch 305 #[(2, 140), (6, 151), (56, 189), (58, 197), (59, 205), (60, 213), (61, 221), (64, 256), (65, 256), (66, 267), (67, 286), (68, 248), (90, 170), (91, 162), (93, 162), (94, 170)], 140) := by decide +kernel
set_option maxRecDepth 100000 in
theorem okX0_layInside : cokMC rX0_layInside KX0_layInside = true := cokMC_of [(4, .lookupswitch 305 #[(2, 140), (6, 151), (56, 189), (58, 197), (59, 205), (60, 213), (61, 221), (64, 256), (65, 256), (66, 267), (67, 286), (68, 248), (90, 170), (91, 162), (93, 162), (94, 170)], 140)] (fun q hq => by
  obtain rfl := List.mem_singleton.mp hq
  exact swX0_layInside_4) (by decide +kernel) (by decide +kernel)
def KX0_layTold_0 : List RI := [(.aload_n 1, 1, 0, 1, []), (.getfield 108, 3, 0, 279, []), (.ifnull 26, 3, 0, 30, [])]
def KX0_layTold_7 : List RI := [(.aload_n 0, 1, 0, 0, []), (.aload_n 1, 1, 0, 1, []), (.getfield 108, 3, 0, 279, []), (.invokevirtual 111, 3, 1, 15, [(0, 0)]), (.aload_n 0, 1, 0, 0, []), (.getfield 15, 3, 0, 31, []), (.aload_n 0, 1, 0, 0, []), (.iconst 2, 1, 0, 0, []), (.aconst_null, 1, 0, 0, []), (.invokevirtual 69, 3, 2, 2, [(0, 0)]), (.aload_n 1, 1, 0, 1, []), (.getfield 130, 3, 0, 280, []), (.iastore, 1, 0, 0, [])]
def KX0_layTold_30 : List RI := [(.return_, 1, 0, 0, [])]
def KX0_layTold : RB := [(0, KX0_layTold_0), (7, KX0_layTold_7), (30, KX0_layTold_30)]
def rX0_layTold : CmC := (yX0_layTold, cX0_layTold, 2, none, 1, 1, false)
theorem hX0_layTold : mtC[9]? = some rX0_layTold := rfl
set_option maxRecDepth 100000 in
theorem okX0_layTold : cokMC rX0_layTold KX0_layTold = true := cokMC_of [] (fun _ h => absurd h List.not_mem_nil) (by decide +kernel) (by decide +kernel)
def KX0_layIf_0 : List RI := [(.aload_n 0, 1, 0, 0, []), (.aload_n 1, 1, 0, 1, []), (.getfield 108, 3, 0, 279, []), (.invokevirtual 111, 3, 1, 15, [(0, 0)]), (.aload_n 0, 1, 0, 0, []), (.bipush 11, 2, 0, 0, []), (.aconst_null, 1, 0, 0, []), (.invokevirtual 69, 3, 2, 2, [(0, 0)]), (.istore_n 2, 1, 0, 2, []), (.aload_n 0, 1, 0, 0, []), (.aload_n 1, 1, 0, 1, []), (.getfield 76, 3, 0, 276, []), (.invokevirtual 102, 3, 1, 7, [(0, 0)]), (.aload_n 1, 1, 0, 1, []), (.getfield 133, 3, 0, 277, []), (.ifnull 42, 3, 0, 70, [])]
def KX0_layIf_31 : List RI := [(.aload_n 0, 1, 0, 0, []), (.bipush 10, 2, 0, 0, []), (.aconst_null, 1, 0, 0, []), (.invokevirtual 69, 3, 2, 2, [(0, 0)]), (.istore_n 3, 1, 0, 3, []), (.aload_n 0, 1, 0, 0, []), (.getfield 15, 3, 0, 31, []), (.iload_n 2, 1, 0, 2, []), (.aload_n 0, 1, 0, 0, []), (.getfield 41, 3, 0, 34, []), (.iastore, 1, 0, 0, []), (.aload_n 0, 1, 0, 0, []), (.aload_n 1, 1, 0, 1, []), (.getfield 133, 3, 0, 277, []), (.invokevirtual 83, 3, 1, 6, [(0, 0)]), (.aload_n 0, 1, 0, 0, []), (.getfield 15, 3, 0, 31, []), (.iload_n 3, 1, 0, 3, []), (.aload_n 0, 1, 0, 0, []), (.getfield 41, 3, 0, 34, []), (.iastore, 1, 0, 0, []), (.goto 13, 3, 0, 80, [])]
def KX0_layIf_70 : List RI := [(.aload_n 0, 1, 0, 0, []), (.getfield 15, 3, 0, 31, []), (.iload_n 2, 1, 0, 2, []), (.aload_n 0, 1, 0, 0, []), (.getfield 41, 3, 0, 34, []), (.iastore, 1, 0, 0, [])]
def KX0_layIf_80 : List RI := [(.return_, 1, 0, 0, [])]
def KX0_layIf : RB := [(0, KX0_layIf_0), (31, KX0_layIf_31), (70, KX0_layIf_70), (80, KX0_layIf_80)]
def rX0_layIf : CmC := (yX0_layIf, cX0_layIf, 4, none, 1, 1, false)
theorem hX0_layIf : mtC[10]? = some rX0_layIf := rfl
set_option maxRecDepth 100000 in
theorem okX0_layIf : cokMC rX0_layIf KX0_layIf = true := cokMC_of [] (fun _ h => absurd h List.not_mem_nil) (by decide +kernel) (by decide +kernel)
def KX0_layWhile_0 : List RI := [(.aload_n 0, 1, 0, 0, []), (.getfield 41, 3, 0, 34, []), (.istore_n 2, 1, 0, 2, []), (.aload_n 0, 1, 0, 0, []), (.bipush 16, 2, 0, 0, []), (.aconst_null, 1, 0, 0, []), (.invokevirtual 69, 3, 2, 2, [(0, 0)]), (.pop, 1, 0, 0, []), (.aload_n 0, 1, 0, 0, []), (.aload_n 1, 1, 0, 1, []), (.getfield 108, 3, 0, 279, []), (.invokevirtual 111, 3, 1, 15, [(0, 0)]), (.aload_n 0, 1, 0, 0, []), (.bipush 11, 2, 0, 0, []), (.aconst_null, 1, 0, 0, []), (.invokevirtual 69, 3, 2, 2, [(0, 0)]), (.istore_n 3, 1, 0, 3, []), (.aload_n 0, 1, 0, 0, []), (.aload_n 1, 1, 0, 1, []), (.getfield 76, 3, 0, 276, []), (.invokevirtual 102, 3, 1, 7, [(0, 0)]), (.aload_n 0, 1, 0, 0, []), (.bipush 10, 2, 0, 0, []), (.iload_n 2, 1, 0, 2, []), (.invokevirtual 136, 3, 2, 3, [(0, 0)]), (.aload_n 0, 1, 0, 0, []), (.getfield 15, 3, 0, 31, []), (.iload_n 3, 1, 0, 3, []), (.aload_n 0, 1, 0, 0, []), (.getfield 41, 3, 0, 34, []), (.iastore, 1, 0, 0, []), (.return_, 1, 0, 0, [])]
def KX0_layWhile : RB := [(0, KX0_layWhile_0)]
def rX0_layWhile : CmC := (yX0_layWhile, cX0_layWhile, 4, none, 1, 1, false)
theorem hX0_layWhile : mtC[11]? = some rX0_layWhile := rfl
set_option maxRecDepth 100000 in
theorem okX0_layWhile : cokMC rX0_layWhile KX0_layWhile = true := cokMC_of [] (fun _ h => absurd h List.not_mem_nil) (by decide +kernel) (by decide +kernel)
def KX0_layDo_0 : List RI := [(.aload_n 0, 1, 0, 0, []), (.getfield 41, 3, 0, 34, []), (.istore_n 2, 1, 0, 2, []), (.aload_n 0, 1, 0, 0, []), (.aload_n 1, 1, 0, 1, []), (.getfield 76, 3, 0, 276, []), (.invokevirtual 102, 3, 1, 7, [(0, 0)]), (.aload_n 0, 1, 0, 0, []), (.bipush 16, 2, 0, 0, []), (.aconst_null, 1, 0, 0, []), (.invokevirtual 69, 3, 2, 2, [(0, 0)]), (.istore_n 3, 1, 0, 3, []), (.aload_n 0, 1, 0, 0, []), (.aload_n 1, 1, 0, 1, []), (.getfield 108, 3, 0, 279, []), (.invokevirtual 111, 3, 1, 15, [(0, 0)]), (.aload_n 0, 1, 0, 0, []), (.bipush 12, 2, 0, 0, []), (.iload_n 2, 1, 0, 2, []), (.invokevirtual 136, 3, 2, 3, [(0, 0)]), (.aload_n 1, 1, 0, 1, []), (.iload_n 3, 1, 0, 3, []), (.putfield 73, 3, 0, 289, []), (.return_, 1, 0, 0, [])]
def KX0_layDo : RB := [(0, KX0_layDo_0)]
def rX0_layDo : CmC := (yX0_layDo, cX0_layDo, 4, none, 1, 1, false)
theorem hX0_layDo : mtC[12]? = some rX0_layDo := rfl
set_option maxRecDepth 100000 in
theorem okX0_layDo : cokMC rX0_layDo KX0_layDo = true := cokMC_of [] (fun _ h => absurd h List.not_mem_nil) (by decide +kernel) (by decide +kernel)
def KX0_layFor_0 : List RI := [(.aload_n 0, 1, 0, 0, []), (.aload_n 1, 1, 0, 1, []), (.getfield 133, 3, 0, 277, []), (.invokevirtual 77, 3, 1, 5, [(0, 0)]), (.aload_n 0, 1, 0, 0, []), (.bipush 16, 2, 0, 0, []), (.aconst_null, 1, 0, 0, []), (.invokevirtual 69, 3, 2, 2, [(0, 0)]), (.istore_n 2, 1, 0, 2, []), (.iconst (-1), 1, 0, 0, []), (.istore_n 3, 1, 0, 3, []), (.aload_n 1, 1, 0, 1, []), (.getfield 108, 3, 0, 279, []), (.ifnull 19, 3, 0, 41, [])]
def KX0_layFor_25 : List RI := [(.aload_n 0, 1, 0, 0, []), (.aload_n 1, 1, 0, 1, []), (.getfield 108, 3, 0, 279, []), (.invokevirtual 111, 3, 1, 15, [(0, 0)]), (.aload_n 0, 1, 0, 0, []), (.bipush 11, 2, 0, 0, []), (.aconst_null, 1, 0, 0, []), (.invokevirtual 69, 3, 2, 2, [(0, 0)]), (.istore_n 3, 1, 0, 3, [])]
def KX0_layFor_41 : List RI := [(.aload_n 0, 1, 0, 0, []), (.bipush 10, 2, 0, 0, []), (.aconst_null, 1, 0, 0, []), (.invokevirtual 69, 3, 2, 2, [(0, 0)]), (.istore 4, 2, 0, 0, []), (.aload_n 0, 1, 0, 0, []), (.getfield 41, 3, 0, 34, []), (.istore 5, 2, 0, 0, []), (.aload_n 0, 1, 0, 0, []), (.aload_n 1, 1, 0, 1, []), (.getfield 140, 3, 0, 278, []), (.invokevirtual 77, 3, 1, 5, [(0, 0)]), (.aload_n 0, 1, 0, 0, []), (.bipush 10, 2, 0, 0, []), (.iload_n 2, 1, 0, 2, []), (.invokevirtual 136, 3, 2, 3, [(0, 0)]), (.aload_n 0, 1, 0, 0, []), (.getfield 15, 3, 0, 31, []), (.iload 4, 2, 0, 0, []), (.aload_n 0, 1, 0, 0, []), (.getfield 41, 3, 0, 34, []), (.iastore, 1, 0, 0, []), (.aload_n 0, 1, 0, 0, []), (.aload_n 1, 1, 0, 1, []), (.getfield 76, 3, 0, 276, []), (.invokevirtual 102, 3, 1, 7, [(0, 0)]), (.aload_n 0, 1, 0, 0, []), (.bipush 10, 2, 0, 0, []), (.iload 5, 2, 0, 0, []), (.invokevirtual 136, 3, 2, 3, [(0, 0)]), (.iload_n 3, 1, 0, 3, []), (.ifCond .lt 13, 3, 0, 112, [])]
def KX0_layFor_102 : List RI := [(.aload_n 0, 1, 0, 0, []), (.getfield 15, 3, 0, 31, []), (.iload_n 3, 1, 0, 3, []), (.aload_n 0, 1, 0, 0, []), (.getfield 41, 3, 0, 34, []), (.iastore, 1, 0, 0, [])]
def KX0_layFor_112 : List RI := [(.aload_n 1, 1, 0, 1, []), (.iload 5, 2, 0, 0, []), (.putfield 73, 3, 0, 289, []), (.return_, 1, 0, 0, [])]
def KX0_layFor : RB := [(0, KX0_layFor_0), (25, KX0_layFor_25), (41, KX0_layFor_41), (102, KX0_layFor_102), (112, KX0_layFor_112)]
def rX0_layFor : CmC := (yX0_layFor, cX0_layFor, 6, none, 1, 1, false)
theorem hX0_layFor : mtC[13]? = some rX0_layFor := rfl
set_option maxRecDepth 100000 in
theorem okX0_layFor : cokMC rX0_layFor KX0_layFor = true := cokMC_of [] (fun _ h => absurd h List.not_mem_nil) (by decide +kernel) (by decide +kernel)
def KX0_layTry_0 : List RI := [(.aload_n 1, 1, 0, 1, []), (.getfield 76, 3, 0, 276, []), (.ifnull 11, 3, 0, 15, [])]
def KX0_layTry_7 : List RI := [(.aload_n 0, 1, 0, 0, []), (.aload_n 1, 1, 0, 1, []), (.getfield 76, 3, 0, 276, []), (.invokevirtual 65, 3, 1, 4, [(0, 0)])]
def KX0_layTry_15 : List RI := [(.aload_n 0, 1, 0, 0, []), (.bipush 10, 2, 0, 0, []), (.aconst_null, 1, 0, 0, []), (.invokevirtual 69, 3, 2, 2, [(0, 0)]), (.istore_n 2, 1, 0, 2, []), (.aload_n 1, 1, 0, 1, []), (.getfield 133, 3, 0, 277, []), (.ifnull 11, 3, 0, 38, [])]
def KX0_layTry_30 : List RI := [(.aload_n 0, 1, 0, 0, []), (.aload_n 1, 1, 0, 1, []), (.getfield 133, 3, 0, 277, []), (.invokevirtual 65, 3, 1, 4, [(0, 0)])]
def KX0_layTry_38 : List RI := [(.aload_n 0, 1, 0, 0, []), (.getfield 15, 3, 0, 31, []), (.iload_n 2, 1, 0, 2, []), (.aload_n 0, 1, 0, 0, []), (.getfield 41, 3, 0, 34, []), (.iastore, 1, 0, 0, []), (.aload_n 1, 1, 0, 1, []), (.getfield 140, 3, 0, 278, []), (.ifnull 27, 3, 0, 79, [])]
def KX0_layTry_55 : List RI := [(.aload_n 0, 1, 0, 0, []), (.bipush 21, 2, 0, 0, []), (.aconst_null, 1, 0, 0, []), (.invokevirtual 69, 3, 2, 2, [(0, 0)]), (.pop, 1, 0, 0, []), (.aload_n 0, 1, 0, 0, []), (.aload_n 1, 1, 0, 1, []), (.getfield 140, 3, 0, 278, []), (.invokevirtual 65, 3, 1, 4, [(0, 0)]), (.aload_n 0, 1, 0, 0, []), (.bipush 22, 2, 0, 0, []), (.aconst_null, 1, 0, 0, []), (.invokevirtual 69, 3, 2, 2, [(0, 0)]), (.pop, 1, 0, 0, [])]
def KX0_layTry_79 : List RI := [(.return_, 1, 0, 0, [])]
def KX0_layTry : RB := [(0, KX0_layTry_0), (7, KX0_layTry_7), (15, KX0_layTry_15), (30, KX0_layTry_30), (38, KX0_layTry_38), (55, KX0_layTry_55), (79, KX0_layTry_79)]
def rX0_layTry : CmC := (yX0_layTry, cX0_layTry, 3, none, 1, 1, false)
theorem hX0_layTry : mtC[14]? = some rX0_layTry := rfl
set_option maxRecDepth 100000 in
theorem okX0_layTry : cokMC rX0_layTry KX0_layTry = true := cokMC_of [] (fun _ h => absurd h List.not_mem_nil) (by decide +kernel) (by decide +kernel)
def KX0_layExp_0 : List RI := [(.aload_n 1, 1, 0, 1, []), (.ifnonnull 4, 3, 0, 5, [])]
def KX0_layExp_4 : List RI := [(.return_, 1, 0, 0, [])]
def KX0_layExp_5 : List RI := [(.aload_n 1, 1, 0, 1, []), (.getfield 143, 3, 0, 63, []), (.istore_n 2, 1, 0, 2, [])]
def KX0_layExp_10 : List RI := [(.iload_n 2, 1, 0, 2, []), (.aload_n 1, 1, 0, 1, []), (.getfield 146, 3, 0, 65, []), (.if_icmp .gt 41, 3, 0, 56, [])]
def KX0_layExp_18 : List RI := [(.iload_n 2, 1, 0, 2, []), (.aload_n 0, 1, 0, 0, []), (.getfield 37, 3, 0, 35, []), (.getfield 149, 3, 0, 213, []), (.invokevirtual 51, 3, 0, 234, []), (.if_icmp .ge 27, 3, 0, 56, [])]
def KX0_layExp_32 : List RI := [(.aload_n 0, 1, 0, 0, []), (.aload_n 0, 1, 0, 0, []), (.getfield 37, 3, 0, 35, []), (.getfield 149, 3, 0, 213, []), (.iload_n 2, 1, 0, 2, []), (.invokevirtual 56, 3, 1, 235, []), (.checkcast 18, 3, 0, 2, []), (.invokevirtual 152, 3, 1, 16, [(0, 0)]), (.iinc 2 1, 3, 0, 0, []), (.goto (-43), 3, 0, 10, [])]
def KX0_layExp_56 : List RI := [(.return_, 1, 0, 0, [])]
def KX0_layExp : RB := [(0, KX0_layExp_0), (4, KX0_layExp_4), (5, KX0_layExp_5), (10, KX0_layExp_10), (18, KX0_layExp_18), (32, KX0_layExp_32), (56, KX0_layExp_56)]
def rX0_layExp : CmC := (yX0_layExp, cX0_layExp, 3, none, 1, 1, false)
theorem hX0_layExp : mtC[15]? = some rX0_layExp := rfl
set_option maxRecDepth 100000 in
theorem okX0_layExp : cokMC rX0_layExp KX0_layExp = true := cokMC_of [] (fun _ h => absurd h List.not_mem_nil) (by decide +kernel) (by decide +kernel)
def KX0_layOne_0 : List RI := [(.aload_n 1, 1, 0, 1, []), (.getfield 155, 3, 0, 60, []), (.tableswitch 311 0 14 #[76, 76, 86, 311, 117, 127, 137, 170, 285, 148, 159, 206, 234, 248, 107], 76, 0, 315, [(0, 80), (1, 80), (2, 90), (3, 315), (4, 121), (5, 131), (6, 141), (7, 174), (8, 289), (9, 152), (10, 163), (11, 210), (12, 238), (13, 252), (14, 111)])]
def KX0_layOne_80 : List RI := [(.aload_n 0, 1, 0, 0, []), (.iconst 0, 1, 0, 0, []), (.aload_n 1, 1, 0, 1, []), (.invokevirtual 69, 3, 2, 2, [(0, 0)]), (.pop, 1, 0, 0, []), (.goto 228, 3, 0, 315, [])]
def KX0_layOne_90 : List RI := [(.aload_n 0, 1, 0, 0, []), (.aload_n 1, 1, 0, 1, []), (.getfield 156, 3, 0, 70, []), (.ifCond .eq 7, 3, 0, 102, [])]
def KX0_layOne_98 : List RI := [(.iconst 0, 1, 0, 0, []), (.goto 4, 3, 0, 103, [])]
def KX0_layOne_102 : List RI := [(.iconst 1, 1, 0, 0, [])]
def KX0_layOne_103 : List RI := [(.aload_n 1, 1, 0, 1, []), (.invokevirtual 69, 3, 2, 2, [(0, 0)]), (.pop, 1, 0, 0, []), (.goto 207, 3, 0, 315, [])]
def KX0_layOne_111 : List RI := [(.aload_n 0, 1, 0, 0, []), (.iconst 1, 1, 0, 0, []), (.aload_n 1, 1, 0, 1, []), (.invokevirtual 69, 3, 2, 2, [(0, 0)]), (.pop, 1, 0, 0, []), (.goto 197, 3, 0, 315, [])]
def KX0_layOne_121 : List RI := [(.aload_n 0, 1, 0, 0, []), (.iconst 3, 1, 0, 0, []), (.aload_n 1, 1, 0, 1, []), (.invokevirtual 69, 3, 2, 2, [(0, 0)]), (.pop, 1, 0, 0, []), (.goto 187, 3, 0, 315, [])]
def KX0_layOne_131 : List RI := [(.aload_n 0, 1, 0, 0, []), (.iconst 4, 1, 0, 0, []), (.aload_n 1, 1, 0, 1, []), (.invokevirtual 69, 3, 2, 2, [(0, 0)]), (.pop, 1, 0, 0, []), (.goto 177, 3, 0, 315, [])]
def KX0_layOne_141 : List RI := [(.aload_n 0, 1, 0, 0, []), (.bipush 6, 2, 0, 0, []), (.aload_n 1, 1, 0, 1, []), (.invokevirtual 69, 3, 2, 2, [(0, 0)]), (.pop, 1, 0, 0, []), (.goto 166, 3, 0, 315, [])]
def KX0_layOne_152 : List RI := [(.aload_n 0, 1, 0, 0, []), (.bipush 7, 2, 0, 0, []), (.aload_n 1, 1, 0, 1, []), (.invokevirtual 69, 3, 2, 2, [(0, 0)]), (.pop, 1, 0, 0, []), (.goto 155, 3, 0, 315, [])]
def KX0_layOne_163 : List RI := [(.aload_n 0, 1, 0, 0, []), (.bipush 8, 2, 0, 0, []), (.aload_n 1, 1, 0, 1, []), (.invokevirtual 69, 3, 2, 2, [(0, 0)]), (.pop, 1, 0, 0, []), (.goto 144, 3, 0, 315, [])]
def KX0_layOne_174 : List RI := [(.aload_n 1, 1, 0, 1, []), (.getfield 160, 3, 0, 76, []), (.ifnonnull 13, 3, 0, 191, [])]
def KX0_layOne_181 : List RI := [(.aload_n 0, 1, 0, 0, []), (.iconst 5, 1, 0, 0, []), (.aload_n 1, 1, 0, 1, []), (.invokevirtual 69, 3, 2, 2, [(0, 0)]), (.pop, 1, 0, 0, []), (.goto 127, 3, 0, 315, [])]
def KX0_layOne_191 : List RI := [(.aload_n 0, 1, 0, 0, []), (.getfield 15, 3, 0, 31, []), (.aload_n 1, 1, 0, 1, []), (.getfield 160, 3, 0, 76, []), (.getfield 163, 3, 0, 77, []), (.aload_n 0, 1, 0, 0, []), (.getfield 41, 3, 0, 34, []), (.iastore, 1, 0, 0, []), (.goto 108, 3, 0, 315, [])]
def KX0_layOne_210 : List RI := [(.aload_n 1, 1, 0, 1, []), (.aload_n 0, 1, 0, 0, []), (.aload_n 1, 1, 0, 1, []), (.getfield 166, 3, 0, 61, []), (.bipush 21, 2, 0, 0, []), (.if_icmp .ne 8, 3, 0, 226, [])]
def KX0_layOne_221 : List RI := [(.bipush 13, 2, 0, 0, []), (.goto 5, 3, 0, 228, [])]
def KX0_layOne_226 : List RI := [(.bipush 14, 2, 0, 0, [])]
def KX0_layOne_228 : List RI := [(.aload_n 1, 1, 0, 1, []), (.invokevirtual 69, 3, 2, 2, [(0, 0)]), (.putfield 163, 3, 0, 77, []), (.goto 80, 3, 0, 315, [])]
def KX0_layOne_238 : List RI := [(.aload_n 1, 1, 0, 1, []), (.aload_n 0, 1, 0, 0, []), (.bipush 11, 2, 0, 0, []), (.aload_n 1, 1, 0, 1, []), (.invokevirtual 69, 3, 2, 2, [(0, 0)]), (.putfield 163, 3, 0, 77, []), (.goto 66, 3, 0, 315, [])]
def KX0_layOne_252 : List RI := [(.aload_n 1, 1, 0, 1, []), (.aload_n 0, 1, 0, 0, []), (.bipush 10, 2, 0, 0, []), (.aload_n 1, 1, 0, 1, []), (.invokevirtual 69, 3, 2, 2, [(0, 0)]), (.putfield 163, 3, 0, 77, []), (.aload_n 1, 1, 0, 1, []), (.getfield 160, 3, 0, 76, []), (.ifnull 48, 3, 0, 315, [])]
def KX0_layOne_270 : List RI := [(.aload_n 0, 1, 0, 0, []), (.getfield 15, 3, 0, 31, []), (.aload_n 1, 1, 0, 1, []), (.getfield 160, 3, 0, 76, []), (.getfield 163, 3, 0, 77, []), (.aload_n 0, 1, 0, 0, []), (.getfield 41, 3, 0, 34, []), (.iastore, 1, 0, 0, []), (.goto 29, 3, 0, 315, [])]
def KX0_layOne_289 : List RI := [(.aload_n 1, 1, 0, 1, []), (.getfield 160, 3, 0, 76, []), (.ifnull 22, 3, 0, 315, [])]
def KX0_layOne_296 : List RI := [(.aload_n 0, 1, 0, 0, []), (.getfield 15, 3, 0, 31, []), (.aload_n 1, 1, 0, 1, []), (.getfield 160, 3, 0, 76, []), (.getfield 163, 3, 0, 77, []), (.aload_n 0, 1, 0, 0, []), (.getfield 41, 3, 0, 34, []), (.iastore, 1, 0, 0, []), (.goto 3, 3, 0, 315, [])]
def KX0_layOne_315 : List RI := [(.return_, 1, 0, 0, [])]
def KX0_layOne : RB := [(0, KX0_layOne_0), (80, KX0_layOne_80), (90, KX0_layOne_90), (98, KX0_layOne_98), (102, KX0_layOne_102), (103, KX0_layOne_103), (111, KX0_layOne_111), (121, KX0_layOne_121), (131, KX0_layOne_131), (141, KX0_layOne_141), (152, KX0_layOne_152), (163, KX0_layOne_163), (174, KX0_layOne_174), (181, KX0_layOne_181), (191, KX0_layOne_191), (210, KX0_layOne_210), (221, KX0_layOne_221), (226, KX0_layOne_226), (228, KX0_layOne_228), (238, KX0_layOne_238), (252, KX0_layOne_252), (270, KX0_layOne_270), (289, KX0_layOne_289), (296, KX0_layOne_296), (315, KX0_layOne_315)]
def rX0_layOne : CmC := (yX0_layOne, cX0_layOne, 2, none, 1, 1, false)
theorem hX0_layOne : mtC[16]? = some rX0_layOne := rfl
set_option maxRecDepth 100000 in
theorem swX0_layOne_4 : decode cX0_layOne 4 = .ok (.tableswitch 311 0 14 #[76, 76, 86, 311, 117, 127, 137, 170, 285, 148, 159, 206, 234, 248, 107], 76) := by decide +kernel
set_option maxRecDepth 100000 in
theorem okX0_layOne : cokMC rX0_layOne KX0_layOne = true := cokMC_of [(4, .tableswitch 311 0 14 #[76, 76, 86, 311, 117, 127, 137, 170, 285, 148, 159, 206, 234, 248, 107], 76)] (fun q hq => by
  obtain rfl := List.mem_singleton.mp hq
  exact swX0_layOne_4) (by decide +kernel) (by decide +kernel)
def KX1_init_0 : List RI := [(.aload_n 0, 1, 0, 0, []), (.invokespecial 3, 3, 0, 9999, []), (.aload_n 0, 1, 0, 0, []), (.iconst (-1), 1, 0, 0, []), (.putfield 9, 3, 0, 67, []), (.aload_n 0, 1, 0, 0, []), (.iconst (-1), 1, 0, 0, []), (.putfield 15, 3, 0, 68, []), (.aload_n 0, 1, 0, 0, []), (.iload_n 1, 1, 0, 1, []), (.putfield 18, 3, 0, 60, []), (.aload_n 0, 1, 0, 0, []), (.iload_n 2, 1, 0, 2, []), (.putfield 21, 3, 0, 61, []), (.aload_n 0, 1, 0, 0, []), (.iload_n 3, 1, 0, 3, []), (.putfield 24, 3, 0, 62, []), (.aload_n 0, 1, 0, 0, []), (.iload 4, 2, 0, 0, []), (.putfield 27, 3, 0, 63, []), (.aload_n 0, 1, 0, 0, []), (.iload_n 3, 1, 0, 3, []), (.putfield 30, 3, 0, 66, []), (.return_, 1, 0, 0, [])]
def KX1_init : RB := [(0, KX1_init_0)]
def rX1_init : CmC := (yX1_init, cX1_init, 5, none, 4, 2, false)
theorem hX1_init : mtC[17]? = some rX1_init := rfl
set_option maxRecDepth 100000 in
theorem okX1_init : cokMC rX1_init KX1_init = true := cokMC_of [] (fun _ h => absurd h List.not_mem_nil) (by decide +kernel) (by decide +kernel)
def KX1_acts_0 : List RI := [(.aload_n 0, 1, 0, 0, []), (.getfield 18, 3, 0, 60, []), (.bipush 9, 2, 0, 0, []), (.if_icmp .eq 21, 3, 0, 27, [])]
def KX1_acts_9 : List RI := [(.aload_n 0, 1, 0, 0, []), (.getfield 18, 3, 0, 60, []), (.bipush 6, 2, 0, 0, []), (.if_icmp .eq 12, 3, 0, 27, [])]
def KX1_acts_18 : List RI := [(.aload_n 0, 1, 0, 0, []), (.getfield 18, 3, 0, 60, []), (.bipush 10, 2, 0, 0, []), (.if_icmp .ne 7, 3, 0, 31, [])]
def KX1_acts_27 : List RI := [(.iconst 1, 1, 0, 0, []), (.goto 4, 3, 0, 32, [])]
def KX1_acts_31 : List RI := [(.iconst 0, 1, 0, 0, [])]
def KX1_acts_32 : List RI := [(.ireturn, 1, 2, 0, [])]
def KX1_acts : RB := [(0, KX1_acts_0), (9, KX1_acts_9), (18, KX1_acts_18), (27, KX1_acts_27), (31, KX1_acts_31), (32, KX1_acts_32)]
def rX1_acts : CmC := (yX1_acts, cX1_acts, 1, (some .boolean), 0, 2, false)
theorem hX1_acts : mtC[18]? = some rX1_acts := rfl
set_option maxRecDepth 100000 in
theorem okX1_acts : cokMC rX1_acts KX1_acts = true := cokMC_of [] (fun _ h => absurd h List.not_mem_nil) (by decide +kernel) (by decide +kernel)
def KX2_init_0 : List RI := [(.aload_n 0, 1, 0, 0, []), (.invokespecial 3, 3, 0, 9999, []), (.aload_n 0, 1, 0, 0, []), (.sipush 500, 3, 0, 0, []), (.newarray .long, 2, 0, 102, []), (.putfield 9, 3, 0, 93, []), (.aload_n 0, 1, 0, 0, []), (.aload_n 1, 1, 0, 1, []), (.putfield 15, 3, 0, 90, []), (.return_, 1, 0, 0, [])]
def KX2_init : RB := [(0, KX2_init_0)]
def rX2_init : CmC := (yX2_init, cX2_init, 2, none, 1, 3, false)
theorem hX2_init : mtC[19]? = some rX2_init := rfl
set_option maxRecDepth 100000 in
theorem swX2_init_8 : decode cX2_init 8 = .ok (.newarray .long, 2) := by decide +kernel
set_option maxRecDepth 100000 in
theorem okX2_init : cokMC rX2_init KX2_init = true := cokMC_of [(8, .newarray .long, 2)] (fun q hq => by
  obtain rfl := List.mem_singleton.mp hq
  exact swX2_init_8) (by decide +kernel) (by decide +kernel)
def KX2_reachAll_0 : List RI := [(.aload_n 0, 1, 0, 0, []), (.aload_n 1, 1, 0, 1, []), (.putfield 15, 3, 0, 90, []), (.iconst 0, 1, 0, 0, []), (.istore_n 2, 1, 0, 2, [])]
def KX2_reachAll_7 : List RI := [(.iload_n 2, 1, 0, 2, []), (.aload_n 0, 1, 0, 0, []), (.getfield 15, 3, 0, 90, []), (.getfield 19, 3, 0, 211, []), (.invokevirtual 25, 3, 0, 234, []), (.if_icmp .ge 56, 3, 0, 74, [])]
def KX2_reachAll_21 : List RI := [(.aload_n 0, 1, 0, 0, []), (.getfield 15, 3, 0, 90, []), (.getfield 19, 3, 0, 211, []), (.iload_n 2, 1, 0, 2, []), (.invokevirtual 31, 3, 1, 235, []), (.checkcast 35, 3, 0, 6, []), (.astore_n 3, 1, 0, 3, []), (.aload_n 0, 1, 0, 0, []), (.aload_n 3, 1, 0, 3, []), (.getfield 37, 3, 0, 186, []), (.invokevirtual 41, 3, 1, 21, [(0, 0), (0, 0), (0, 0)]), (.ifCond .eq 24, 3, 0, 68, [])]
def KX2_reachAll_47 : List RI := [(.aload_n 3, 1, 0, 3, []), (.getfield 45, 3, 0, 182, []), (.iconst 5, 1, 0, 0, []), (.if_icmp .eq 16, 3, 0, 68, [])]
def KX2_reachAll_55 : List RI := [(.aload_n 0, 1, 0, 0, []), (.getfield 15, 3, 0, 90, []), (.bipush 14, 2, 0, 0, []), (.aload_n 3, 1, 0, 3, []), (.getfield 49, 3, 0, 180, []), (.invokevirtual 52, 3, 2, 118, [(0, 0), (0, 0), (0, 0), (0, 0), (0, 0), (0, 0), (0, 0)])]
def KX2_reachAll_68 : List RI := [(.iinc 2 1, 3, 0, 0, []), (.goto (-64), 3, 0, 7, [])]
def KX2_reachAll_74 : List RI := [(.return_, 1, 0, 0, [])]
def KX2_reachAll : RB := [(0, KX2_reachAll_0), (7, KX2_reachAll_7), (21, KX2_reachAll_21), (47, KX2_reachAll_47), (55, KX2_reachAll_55), (68, KX2_reachAll_68), (74, KX2_reachAll_74)]
def rX2_reachAll : CmC := (yX2_reachAll, cX2_reachAll, 4, none, 1, 3, false)
theorem hX2_reachAll : mtC[20]? = some rX2_reachAll := rfl
set_option maxRecDepth 100000 in
theorem okX2_reachAll : cokMC rX2_reachAll KX2_reachAll = true := cokMC_of [] (fun _ h => absurd h List.not_mem_nil) (by decide +kernel) (by decide +kernel)
def KX2_reachRow_0 : List RI := [(.iconst 1, 1, 0, 0, []), (.istore_n 2, 1, 0, 2, []), (.aload_n 1, 1, 0, 1, []), (.getfield 56, 3, 0, 276, []), (.astore_n 3, 1, 0, 3, [])]
def KX2_reachRow_7 : List RI := [(.aload_n 3, 1, 0, 3, []), (.ifnull 18, 3, 0, 26, [])]
def KX2_reachRow_11 : List RI := [(.aload_n 0, 1, 0, 0, []), (.aload_n 3, 1, 0, 3, []), (.iload_n 2, 1, 0, 2, []), (.invokevirtual 59, 3, 2, 22, [(0, 0), (0, 0), (0, 0)]), (.istore_n 2, 1, 0, 2, []), (.aload_n 3, 1, 0, 3, []), (.getfield 63, 3, 0, 275, []), (.astore_n 3, 1, 0, 3, []), (.goto (-16), 3, 0, 7, [])]
def KX2_reachRow_26 : List RI := [(.aload_n 1, 1, 0, 1, []), (.iload_n 2, 1, 0, 2, []), (.putfield 66, 3, 0, 282, []), (.iload_n 2, 1, 0, 2, []), (.ireturn, 1, 2, 0, [])]
def KX2_reachRow : RB := [(0, KX2_reachRow_0), (7, KX2_reachRow_7), (11, KX2_reachRow_11), (26, KX2_reachRow_26)]
def rX2_reachRow : CmC := (yX2_reachRow, cX2_reachRow, 4, (some .boolean), 1, 3, false)
theorem hX2_reachRow : mtC[21]? = some rX2_reachRow := rfl
set_option maxRecDepth 100000 in
theorem okX2_reachRow : cokMC rX2_reachRow KX2_reachRow = true := cokMC_of [] (fun _ h => absurd h List.not_mem_nil) (by decide +kernel) (by decide +kernel)
def KX2_reach_0 : List RI := [(.iload_n 2, 1, 0, 2, []), (.ifCond .ne 18, 3, 0, 19, [])]
def KX2_reach_4 : List RI := [(.aload_n 0, 1, 0, 0, []), (.getfield 15, 3, 0, 90, []), (.bipush 13, 2, 0, 0, []), (.aload_n 1, 1, 0, 1, []), (.getfield 70, 3, 0, 271, []), (.invokevirtual 52, 3, 2, 118, [(0, 0), (0, 0), (0, 0), (0, 0), (0, 0), (0, 0), (0, 0)]), (.iconst 0, 1, 0, 0, []), (.ireturn, 1, 2, 0, [])]
def KX2_reach_19 : List RI := [(.aload_n 1, 1, 0, 1, []), (.aload_n 1, 1, 0, 1, []), (.getfield 73, 3, 0, 272, []), (.bipush 20, 2, 0, 0, []), (.if_icmp .gt 15, 3, 0, 41, [])]
def KX2_reach_29 : List RI := [(.aload_n 0, 1, 0, 0, []), (.aload_n 1, 1, 0, 1, []), (.invokevirtual 76, 3, 1, 23, [(0, 0), (0, 0), (0, 0)]), (.ifCond .eq 7, 3, 0, 41, [])]
def KX2_reach_37 : List RI := [(.iconst 1, 1, 0, 0, []), (.goto 4, 3, 0, 42, [])]
def KX2_reach_41 : List RI := [(.iconst 0, 1, 0, 0, [])]
def KX2_reach_42 : List RI := [(.putfield 66, 3, 0, 282, []), (.aload_n 1, 1, 0, 1, []), (.getfield 66, 3, 0, 282, []), (.ireturn, 1, 2, 0, [])]
def KX2_reach : RB := [(0, KX2_reach_0), (4, KX2_reach_4), (19, KX2_reach_19), (29, KX2_reach_29), (37, KX2_reach_37), (41, KX2_reach_41), (42, KX2_reach_42)]
def rX2_reach : CmC := (yX2_reach, cX2_reach, 3, (some .boolean), 2, 3, false)
theorem hX2_reach : mtC[22]? = some rX2_reach := rfl
set_option maxRecDepth 100000 in
theorem okX2_reach : cokMC rX2_reach KX2_reach = true := cokMC_of [] (fun _ h => absurd h List.not_mem_nil) (by decide +kernel) (by decide +kernel)
def KX2_reachInside_0 : List RI := [(.aload_n 1, 1, 0, 1, []), (.getfield 79, 3, 0, 270, []), (.lookupswitch 261 #[(2, 92), (6, 98), (56, 120), (58, 156), (59, 196), (60, 156), (61, 243), (64, 255), (65, 255), (68, 249)], 92, 0, 265, [(2, 96), (6, 102), (56, 124), (58, 160), (59, 200), (60, 160), (61, 247), (64, 259), (65, 259), (68, 253)])]
def KX2_reachInside_96 : List RI := [(.aload_n 0, 1, 0, 0, []), (.aload_n 1, 1, 0, 1, []), (.invokevirtual 41, 3, 1, 21, [(0, 0), (0, 0), (0, 0)]), (.ireturn, 1, 2, 0, [])]
def KX2_reachInside_102 : List RI := [(.aload_n 0, 1, 0, 0, []), (.aload_n 1, 1, 0, 1, []), (.iconst 1, 1, 0, 0, []), (.invokevirtual 82, 3, 2, 24, [(0, 0), (0, 0), (0, 0)]), (.ifCond .ne 10, 3, 0, 118, [])]
def KX2_reachInside_111 : List RI := [(.aload_n 1, 1, 0, 1, []), (.getfield 85, 3, 0, 283, []), (.ifCond .eq 7, 3, 0, 122, [])]
def KX2_reachInside_118 : List RI := [(.iconst 1, 1, 0, 0, []), (.goto 4, 3, 0, 123, [])]
def KX2_reachInside_122 : List RI := [(.iconst 0, 1, 0, 0, [])]
def KX2_reachInside_123 : List RI := [(.ireturn, 1, 2, 0, [])]
def KX2_reachInside_124 : List RI := [(.aload_n 0, 1, 0, 0, []), (.aload_n 1, 1, 0, 1, []), (.iconst 1, 1, 0, 0, []), (.invokevirtual 82, 3, 2, 24, [(0, 0), (0, 0), (0, 0)]), (.istore_n 2, 1, 0, 2, []), (.aload_n 1, 1, 0, 1, []), (.getfield 88, 3, 0, 277, []), (.ifnull 19, 3, 0, 154, [])]
def KX2_reachInside_138 : List RI := [(.aload_n 0, 1, 0, 0, []), (.aload_n 1, 1, 0, 1, []), (.getfield 88, 3, 0, 277, []), (.iconst 1, 1, 0, 0, []), (.invokevirtual 59, 3, 2, 22, [(0, 0), (0, 0), (0, 0)]), (.ifCond .ne 7, 3, 0, 154, [])]
def KX2_reachInside_150 : List RI := [(.iload_n 2, 1, 0, 2, []), (.ifCond .eq 7, 3, 0, 158, [])]
def KX2_reachInside_154 : List RI := [(.iconst 1, 1, 0, 0, []), (.goto 4, 3, 0, 159, [])]
def KX2_reachInside_158 : List RI := [(.iconst 0, 1, 0, 0, [])]
def KX2_reachInside_159 : List RI := [(.ireturn, 1, 2, 0, [])]
def KX2_reachInside_160 : List RI := [(.aload_n 0, 1, 0, 0, []), (.aload_n 1, 1, 0, 1, []), (.aload_n 1, 1, 0, 1, []), (.iconst 0, 1, 0, 0, []), (.invokevirtual 91, 3, 1, 183, [(0, 0), (0, 0), (0, 0), (0, 0), (0, 0), (0, 0), (0, 0), (0, 0), (0, 0)]), (.ifCond .ne 7, 3, 0, 174, [])]
def KX2_reachInside_170 : List RI := [(.iconst 1, 1, 0, 0, []), (.goto 4, 3, 0, 175, [])]
def KX2_reachInside_174 : List RI := [(.iconst 0, 1, 0, 0, [])]
def KX2_reachInside_175 : List RI := [(.invokevirtual 82, 3, 2, 24, [(0, 0), (0, 0), (0, 0)]), (.pop, 1, 0, 0, []), (.aload_n 1, 1, 0, 1, []), (.iconst 1, 1, 0, 0, []), (.invokevirtual 91, 3, 1, 183, [(0, 0), (0, 0), (0, 0), (0, 0), (0, 0), (0, 0), (0, 0), (0, 0), (0, 0)]), (.ifCond .eq 10, 3, 0, 194, [])]
def KX2_reachInside_187 : List RI := [(.aload_n 1, 1, 0, 1, []), (.getfield 85, 3, 0, 283, []), (.ifCond .eq 7, 3, 0, 198, [])]
def KX2_reachInside_194 : List RI := [(.iconst 1, 1, 0, 0, []), (.goto 4, 3, 0, 199, [])]
def KX2_reachInside_198 : List RI := [(.iconst 0, 1, 0, 0, [])]
def KX2_reachInside_199 : List RI := [(.ireturn, 1, 2, 0, [])]
def KX2_reachInside_200 : List RI := [(.aload_n 0, 1, 0, 0, []), (.aload_n 1, 1, 0, 1, []), (.iconst 1, 1, 0, 0, []), (.invokevirtual 82, 3, 2, 24, [(0, 0), (0, 0), (0, 0)]), (.ifCond .ne 10, 3, 0, 216, [])]
def KX2_reachInside_209 : List RI := [(.aload_n 1, 1, 0, 1, []), (.getfield 95, 3, 0, 284, []), (.ifCond .eq 7, 3, 0, 220, [])]
def KX2_reachInside_216 : List RI := [(.iconst 1, 1, 0, 0, []), (.goto 4, 3, 0, 221, [])]
def KX2_reachInside_220 : List RI := [(.iconst 0, 1, 0, 0, [])]
def KX2_reachInside_221 : List RI := [(.istore_n 3, 1, 0, 3, []), (.iload_n 3, 1, 0, 3, []), (.ifCond .eq 11, 3, 0, 234, [])]
def KX2_reachInside_226 : List RI := [(.aload_n 1, 1, 0, 1, []), (.iconst 1, 1, 0, 0, []), (.invokevirtual 91, 3, 1, 183, [(0, 0), (0, 0), (0, 0), (0, 0), (0, 0), (0, 0), (0, 0), (0, 0), (0, 0)]), (.ifCond .eq 10, 3, 0, 241, [])]
def KX2_reachInside_234 : List RI := [(.aload_n 1, 1, 0, 1, []), (.getfield 85, 3, 0, 283, []), (.ifCond .eq 7, 3, 0, 245, [])]
def KX2_reachInside_241 : List RI := [(.iconst 1, 1, 0, 0, []), (.goto 4, 3, 0, 246, [])]
def KX2_reachInside_245 : List RI := [(.iconst 0, 1, 0, 0, [])]
def KX2_reachInside_246 : List RI := [(.ireturn, 1, 2, 0, [])]
def KX2_reachInside_247 : List RI := [(.aload_n 0, 1, 0, 0, []), (.aload_n 1, 1, 0, 1, []), (.invokevirtual 98, 3, 1, 25, [(0, 0), (0, 0), (0, 0)]), (.ireturn, 1, 2, 0, [])]
def KX2_reachInside_253 : List RI := [(.aload_n 0, 1, 0, 0, []), (.aload_n 1, 1, 0, 1, []), (.invokevirtual 101, 3, 1, 26, [(0, 0), (0, 0), (0, 0)]), (.ireturn, 1, 2, 0, [])]
def KX2_reachInside_259 : List RI := [(.aload_n 1, 1, 0, 1, []), (.invokestatic 104, 3, 1, 27, []), (.iconst 0, 1, 0, 0, []), (.ireturn, 1, 2, 0, [])]
def KX2_reachInside_265 : List RI := [(.aload_n 1, 1, 0, 1, []), (.getfield 79, 3, 0, 270, []), (.bipush 66, 2, 0, 0, []), (.if_icmp .eq 16, 3, 0, 287, [])]
def KX2_reachInside_274 : List RI := [(.aload_n 1, 1, 0, 1, []), (.getfield 79, 3, 0, 270, []), (.bipush 67, 2, 0, 0, []), (.if_icmp .eq 7, 3, 0, 287, [])]
def KX2_reachInside_283 : List RI := [(.iconst 1, 1, 0, 0, []), (.goto 4, 3, 0, 288, [])]
def KX2_reachInside_287 : List RI := [(.iconst 0, 1, 0, 0, [])]
def KX2_reachInside_288 : List RI := [(.ireturn, 1, 2, 0, [])]
def KX2_reachInside : RB := [(0, KX2_reachInside_0), (96, KX2_reachInside_96), (102, KX2_reachInside_102), (111, KX2_reachInside_111), (118, KX2_reachInside_118), (122, KX2_reachInside_122), (123, KX2_reachInside_123), (124, KX2_reachInside_124), (138, KX2_reachInside_138), (150, KX2_reachInside_150), (154, KX2_reachInside_154), (158, KX2_reachInside_158), (159, KX2_reachInside_159), (160, KX2_reachInside_160), (170, KX2_reachInside_170), (174, KX2_reachInside_174), (175, KX2_reachInside_175), (187, KX2_reachInside_187), (194, KX2_reachInside_194), (198, KX2_reachInside_198), (199, KX2_reachInside_199), (200, KX2_reachInside_200), (209, KX2_reachInside_209), (216, KX2_reachInside_216), (220, KX2_reachInside_220), (221, KX2_reachInside_221), (226, KX2_reachInside_226), (234, KX2_reachInside_234), (241, KX2_reachInside_241), (245, KX2_reachInside_245), (246, KX2_reachInside_246), (247, KX2_reachInside_247), (253, KX2_reachInside_253), (259, KX2_reachInside_259), (265, KX2_reachInside_265), (274, KX2_reachInside_274), (283, KX2_reachInside_283), (287, KX2_reachInside_287), (288, KX2_reachInside_288)]
def rX2_reachInside : CmC := (yX2_reachInside, cX2_reachInside, 4, (some .boolean), 1, 3, false)
theorem hX2_reachInside : mtC[23]? = some rX2_reachInside := rfl
set_option maxRecDepth 100000 in
theorem swX2_reachInside_4 : decode cX2_reachInside 4 = .ok (.lookupswitch 261 #[(2, 92), (6, 98), (56, 120), (58, 156), (59, 196), (60, 156), (61, 243), (64, 255), (65, 255), (68, 249)], 92) := by decide +kernel
set_option maxRecDepth 100000 in
theorem okX2_reachInside : cokMC rX2_reachInside KX2_reachInside = true := cokMC_of [(4, .lookupswitch 261 #[(2, 92), (6, 98), (56, 120), (58, 156), (59, 196), (60, 156), (61, 243), (64, 255), (65, 255), (68, 249)], 92)] (fun q hq => by
  obtain rfl := List.mem_singleton.mp hq
  exact swX2_reachInside_4) (by decide +kernel) (by decide +kernel)
def KX2_reachBody_0 : List RI := [(.aload_n 1, 1, 0, 1, []), (.getfield 56, 3, 0, 276, []), (.ifnull 19, 3, 0, 23, [])]
def KX2_reachBody_7 : List RI := [(.aload_n 0, 1, 0, 0, []), (.aload_n 1, 1, 0, 1, []), (.getfield 56, 3, 0, 276, []), (.iload_n 2, 1, 0, 2, []), (.invokevirtual 59, 3, 2, 22, [(0, 0), (0, 0), (0, 0)]), (.ifCond .eq 7, 3, 0, 23, [])]
def KX2_reachBody_19 : List RI := [(.iconst 1, 1, 0, 0, []), (.goto 4, 3, 0, 24, [])]
def KX2_reachBody_23 : List RI := [(.iconst 0, 1, 0, 0, [])]
def KX2_reachBody_24 : List RI := [(.ireturn, 1, 2, 0, [])]
def KX2_reachBody : RB := [(0, KX2_reachBody_0), (7, KX2_reachBody_7), (19, KX2_reachBody_19), (23, KX2_reachBody_23), (24, KX2_reachBody_24)]
def rX2_reachBody : CmC := (yX2_reachBody, cX2_reachBody, 3, (some .boolean), 2, 3, false)
theorem hX2_reachBody : mtC[24]? = some rX2_reachBody := rfl
set_option maxRecDepth 100000 in
theorem okX2_reachBody : cokMC rX2_reachBody KX2_reachBody = true := cokMC_of [] (fun _ h => absurd h List.not_mem_nil) (by decide +kernel) (by decide +kernel)
def KX2_reachSwitch_0 : List RI := [(.iconst 0, 1, 0, 0, []), (.istore_n 2, 1, 0, 2, []), (.iconst 0, 1, 0, 0, []), (.istore_n 3, 1, 0, 3, []), (.aload_n 1, 1, 0, 1, []), (.getfield 56, 3, 0, 276, []), (.astore 4, 2, 0, 0, [])]
def KX2_reachSwitch_10 : List RI := [(.aload 4, 2, 0, 0, []), (.ifnull 64, 3, 0, 76, [])]
def KX2_reachSwitch_15 : List RI := [(.aload 4, 2, 0, 0, []), (.getfield 79, 3, 0, 270, []), (.bipush 62, 2, 0, 0, []), (.if_icmp .eq 13, 3, 0, 35, [])]
def KX2_reachSwitch_25 : List RI := [(.aload 4, 2, 0, 0, []), (.getfield 79, 3, 0, 270, []), (.bipush 63, 2, 0, 0, []), (.if_icmp .ne 26, 3, 0, 58, [])]
def KX2_reachSwitch_35 : List RI := [(.iconst 1, 1, 0, 0, []), (.istore_n 2, 1, 0, 2, []), (.iload_n 3, 1, 0, 3, []), (.aload 4, 2, 0, 0, []), (.getfield 79, 3, 0, 270, []), (.bipush 63, 2, 0, 0, []), (.if_icmp .ne 7, 3, 0, 52, [])]
def KX2_reachSwitch_48 : List RI := [(.iconst 1, 1, 0, 0, []), (.goto 4, 3, 0, 53, [])]
def KX2_reachSwitch_52 : List RI := [(.iconst 0, 1, 0, 0, [])]
def KX2_reachSwitch_53 : List RI := [(.ior, 1, 0, 0, []), (.istore_n 3, 1, 0, 3, []), (.goto 11, 3, 0, 66, [])]
def KX2_reachSwitch_58 : List RI := [(.aload_n 0, 1, 0, 0, []), (.aload 4, 2, 0, 0, []), (.iload_n 2, 1, 0, 2, []), (.invokevirtual 59, 3, 2, 22, [(0, 0), (0, 0), (0, 0)]), (.istore_n 2, 1, 0, 2, [])]
def KX2_reachSwitch_66 : List RI := [(.aload 4, 2, 0, 0, []), (.getfield 63, 3, 0, 275, []), (.astore 4, 2, 0, 0, []), (.goto (-63), 3, 0, 10, [])]
def KX2_reachSwitch_76 : List RI := [(.iload_n 2, 1, 0, 2, []), (.ifCond .ne 14, 3, 0, 91, [])]
def KX2_reachSwitch_80 : List RI := [(.iload_n 3, 1, 0, 3, []), (.ifCond .eq 10, 3, 0, 91, [])]
def KX2_reachSwitch_84 : List RI := [(.aload_n 1, 1, 0, 1, []), (.getfield 85, 3, 0, 283, []), (.ifCond .eq 7, 3, 0, 95, [])]
def KX2_reachSwitch_91 : List RI := [(.iconst 1, 1, 0, 0, []), (.goto 4, 3, 0, 96, [])]
def KX2_reachSwitch_95 : List RI := [(.iconst 0, 1, 0, 0, [])]
def KX2_reachSwitch_96 : List RI := [(.ireturn, 1, 2, 0, [])]
def KX2_reachSwitch : RB := [(0, KX2_reachSwitch_0), (10, KX2_reachSwitch_10), (15, KX2_reachSwitch_15), (25, KX2_reachSwitch_25), (35, KX2_reachSwitch_35), (48, KX2_reachSwitch_48), (52, KX2_reachSwitch_52), (53, KX2_reachSwitch_53), (58, KX2_reachSwitch_58), (66, KX2_reachSwitch_66), (76, KX2_reachSwitch_76), (80, KX2_reachSwitch_80), (84, KX2_reachSwitch_84), (91, KX2_reachSwitch_91), (95, KX2_reachSwitch_95), (96, KX2_reachSwitch_96)]
def rX2_reachSwitch : CmC := (yX2_reachSwitch, cX2_reachSwitch, 5, (some .boolean), 1, 3, false)
theorem hX2_reachSwitch : mtC[25]? = some rX2_reachSwitch := rfl
set_option maxRecDepth 100000 in
theorem okX2_reachSwitch : cokMC rX2_reachSwitch KX2_reachSwitch = true := cokMC_of [] (fun _ h => absurd h List.not_mem_nil) (by decide +kernel) (by decide +kernel)
def KX2_reachTry_0 : List RI := [(.aload_n 1, 1, 0, 1, []), (.getfield 108, 3, 0, 278, []), (.ifnull 14, 3, 0, 18, [])]
def KX2_reachTry_7 : List RI := [(.aload_n 0, 1, 0, 0, []), (.aload_n 1, 1, 0, 1, []), (.getfield 108, 3, 0, 278, []), (.invokevirtual 41, 3, 1, 21, [(0, 0), (0, 0), (0, 0)]), (.ifCond .eq 7, 3, 0, 22, [])]
def KX2_reachTry_18 : List RI := [(.iconst 1, 1, 0, 0, []), (.goto 4, 3, 0, 23, [])]
def KX2_reachTry_22 : List RI := [(.iconst 0, 1, 0, 0, [])]
def KX2_reachTry_23 : List RI := [(.istore_n 2, 1, 0, 2, []), (.aload_n 1, 1, 0, 1, []), (.getfield 56, 3, 0, 276, []), (.ifnull 18, 3, 0, 46, [])]
def KX2_reachTry_31 : List RI := [(.aload_n 0, 1, 0, 0, []), (.aload_n 1, 1, 0, 1, []), (.getfield 56, 3, 0, 276, []), (.invokevirtual 41, 3, 1, 21, [(0, 0), (0, 0), (0, 0)]), (.ifCond .eq 7, 3, 0, 46, [])]
def KX2_reachTry_42 : List RI := [(.iconst 1, 1, 0, 0, []), (.goto 4, 3, 0, 47, [])]
def KX2_reachTry_46 : List RI := [(.iconst 0, 1, 0, 0, [])]
def KX2_reachTry_47 : List RI := [(.istore_n 3, 1, 0, 3, []), (.aload_n 1, 1, 0, 1, []), (.getfield 88, 3, 0, 277, []), (.ifnull 14, 3, 0, 66, [])]
def KX2_reachTry_55 : List RI := [(.iload_n 3, 1, 0, 3, []), (.aload_n 0, 1, 0, 0, []), (.aload_n 1, 1, 0, 1, []), (.getfield 88, 3, 0, 277, []), (.invokevirtual 41, 3, 1, 21, [(0, 0), (0, 0), (0, 0)]), (.ior, 1, 0, 0, []), (.istore_n 3, 1, 0, 3, [])]
def KX2_reachTry_66 : List RI := [(.iload_n 3, 1, 0, 3, []), (.ifCond .eq 11, 3, 0, 78, [])]
def KX2_reachTry_70 : List RI := [(.iload_n 2, 1, 0, 2, []), (.ifCond .eq 7, 3, 0, 78, [])]
def KX2_reachTry_74 : List RI := [(.iconst 1, 1, 0, 0, []), (.goto 4, 3, 0, 79, [])]
def KX2_reachTry_78 : List RI := [(.iconst 0, 1, 0, 0, [])]
def KX2_reachTry_79 : List RI := [(.ireturn, 1, 2, 0, [])]
def KX2_reachTry : RB := [(0, KX2_reachTry_0), (7, KX2_reachTry_7), (18, KX2_reachTry_18), (22, KX2_reachTry_22), (23, KX2_reachTry_23), (31, KX2_reachTry_31), (42, KX2_reachTry_42), (46, KX2_reachTry_46), (47, KX2_reachTry_47), (55, KX2_reachTry_55), (66, KX2_reachTry_66), (70, KX2_reachTry_70), (74, KX2_reachTry_74), (78, KX2_reachTry_78), (79, KX2_reachTry_79)]
def rX2_reachTry : CmC := (yX2_reachTry, cX2_reachTry, 4, (some .boolean), 1, 3, false)
theorem hX2_reachTry : mtC[26]? = some rX2_reachTry := rfl
set_option maxRecDepth 100000 in
theorem okX2_reachTry : cokMC rX2_reachTry KX2_reachTry = true := cokMC_of [] (fun _ h => absurd h List.not_mem_nil) (by decide +kernel) (by decide +kernel)
def KX2_markTarget_0 : List RI := [(.aload_n 0, 1, 0, 0, []), (.astore_n 1, 1, 0, 1, [])]
def KX2_markTarget_2 : List RI := [(.aload_n 1, 1, 0, 1, []), (.ifnull 40, 3, 0, 43, [])]
def KX2_markTarget_6 : List RI := [(.aload_n 1, 1, 0, 1, []), (.aload_n 0, 1, 0, 0, []), (.getfield 111, 3, 0, 281, []), (.if_acmp .eq 32, 3, 0, 43, [])]
def KX2_markTarget_14 : List RI := [(.aload_n 1, 1, 0, 1, []), (.invokevirtual 114, 3, 0, 181, [(0, 0), (0, 0), (0, 0), (0, 0), (0, 0), (0, 0), (0, 0), (0, 0), (0, 0)]), (.ifCond .eq 17, 3, 0, 35, [])]
def KX2_markTarget_21 : List RI := [(.aload_n 1, 1, 0, 1, []), (.getfield 118, 3, 0, 273, []), (.getfield 108, 3, 0, 278, []), (.getfield 66, 3, 0, 282, []), (.ifCond .ne 4, 3, 0, 35, [])]
def KX2_markTarget_34 : List RI := [(.return_, 1, 0, 0, [])]
def KX2_markTarget_35 : List RI := [(.aload_n 1, 1, 0, 1, []), (.getfield 118, 3, 0, 273, []), (.astore_n 1, 1, 0, 1, []), (.goto (-38), 3, 0, 2, [])]
def KX2_markTarget_43 : List RI := [(.aload_n 0, 1, 0, 0, []), (.getfield 111, 3, 0, 281, []), (.ifnull 23, 3, 0, 70, [])]
def KX2_markTarget_50 : List RI := [(.aload_n 0, 1, 0, 0, []), (.getfield 79, 3, 0, 270, []), (.bipush 64, 2, 0, 0, []), (.if_icmp .ne 14, 3, 0, 70, [])]
def KX2_markTarget_59 : List RI := [(.aload_n 0, 1, 0, 0, []), (.getfield 111, 3, 0, 281, []), (.iconst 1, 1, 0, 0, []), (.putfield 85, 3, 0, 283, []), (.goto 18, 3, 0, 85, [])]
def KX2_markTarget_70 : List RI := [(.aload_n 0, 1, 0, 0, []), (.getfield 111, 3, 0, 281, []), (.ifnull 11, 3, 0, 85, [])]
def KX2_markTarget_77 : List RI := [(.aload_n 0, 1, 0, 0, []), (.getfield 111, 3, 0, 281, []), (.iconst 1, 1, 0, 0, []), (.putfield 95, 3, 0, 284, [])]
def KX2_markTarget_85 : List RI := [(.return_, 1, 0, 0, [])]
def KX2_markTarget : RB := [(0, KX2_markTarget_0), (2, KX2_markTarget_2), (6, KX2_markTarget_6), (14, KX2_markTarget_14), (21, KX2_markTarget_21), (34, KX2_markTarget_34), (35, KX2_markTarget_35), (43, KX2_markTarget_43), (50, KX2_markTarget_50), (59, KX2_markTarget_59), (70, KX2_markTarget_70), (77, KX2_markTarget_77), (85, KX2_markTarget_85)]
def rX2_markTarget : CmC := (yX2_markTarget, cX2_markTarget, 2, none, 1, 3, true)
theorem hX2_markTarget : mtC[27]? = some rX2_markTarget := rfl
set_option maxRecDepth 100000 in
theorem okX2_markTarget : cokMC rX2_markTarget KX2_markTarget = true := cokMC_of [] (fun _ h => absurd h List.not_mem_nil) (by decide +kernel) (by decide +kernel)
def KX2_assignAll_0 : List RI := [(.aload_n 0, 1, 0, 0, []), (.aload_n 1, 1, 0, 1, []), (.putfield 15, 3, 0, 90, []), (.iconst 0, 1, 0, 0, []), (.istore_n 2, 1, 0, 2, [])]
def KX2_assignAll_7 : List RI := [(.iload_n 2, 1, 0, 2, []), (.aload_n 0, 1, 0, 0, []), (.getfield 15, 3, 0, 90, []), (.getfield 19, 3, 0, 211, []), (.invokevirtual 25, 3, 0, 234, []), (.if_icmp .ge 71, 3, 0, 89, [])]
def KX2_assignAll_21 : List RI := [(.aload_n 0, 1, 0, 0, []), (.getfield 15, 3, 0, 90, []), (.getfield 19, 3, 0, 211, []), (.iload_n 2, 1, 0, 2, []), (.invokevirtual 31, 3, 1, 235, []), (.checkcast 35, 3, 0, 6, []), (.astore_n 3, 1, 0, 3, []), (.lconst 0, 1, 0, 0, []), (.lstore 4, 2, 0, 0, []), (.iconst 0, 1, 0, 0, []), (.istore 6, 2, 0, 0, [])]
def KX2_assignAll_42 : List RI := [(.iload 6, 2, 0, 0, []), (.aload_n 3, 1, 0, 3, []), (.getfield 121, 3, 0, 185, []), (.if_icmp .ge 24, 3, 0, 72, [])]
def KX2_assignAll_51 : List RI := [(.lload 4, 2, 0, 0, []), (.aload_n 3, 1, 0, 3, []), (.getfield 124, 3, 0, 184, []), (.iload 6, 2, 0, 0, []), (.iadd, 1, 0, 0, []), (.invokestatic 127, 3, 1, 222, []), (.lor, 1, 0, 0, []), (.lstore 4, 2, 0, 0, []), (.iinc 6 1, 3, 0, 0, []), (.goto (-27), 3, 0, 42, [])]
def KX2_assignAll_72 : List RI := [(.aload_n 0, 1, 0, 0, []), (.aload_n 3, 1, 0, 3, []), (.getfield 37, 3, 0, 186, []), (.lload 4, 2, 0, 0, []), (.invokevirtual 131, 3, 2, 29, [(0, 0), (0, 0), (0, 0)]), (.pop2, 1, 0, 0, []), (.iinc 2 1, 3, 0, 0, []), (.goto (-79), 3, 0, 7, [])]
def KX2_assignAll_89 : List RI := [(.return_, 1, 0, 0, [])]
def KX2_assignAll : RB := [(0, KX2_assignAll_0), (7, KX2_assignAll_7), (21, KX2_assignAll_21), (42, KX2_assignAll_42), (51, KX2_assignAll_51), (72, KX2_assignAll_72), (89, KX2_assignAll_89)]
def rX2_assignAll : CmC := (yX2_assignAll, cX2_assignAll, 7, none, 1, 3, false)
theorem hX2_assignAll : mtC[28]? = some rX2_assignAll := rfl
set_option maxRecDepth 100000 in
theorem okX2_assignAll : cokMC rX2_assignAll KX2_assignAll = true := cokMC_of [] (fun _ h => absurd h List.not_mem_nil) (by decide +kernel) (by decide +kernel)
def KX2_assign_0 : List RI := [(.aload_n 1, 1, 0, 1, []), (.lload_n 2, 1, 0, 2, []), (.putfield 135, 3, 0, 285, []), (.aload_n 1, 1, 0, 1, []), (.aload_n 1, 1, 0, 1, []), (.getfield 73, 3, 0, 272, []), (.bipush 20, 2, 0, 0, []), (.if_icmp .le 7, 3, 0, 19, [])]
def KX2_assign_15 : List RI := [(.lload_n 2, 1, 0, 2, []), (.goto 9, 3, 0, 25, [])]
def KX2_assign_19 : List RI := [(.aload_n 0, 1, 0, 0, []), (.aload_n 1, 1, 0, 1, []), (.lload_n 2, 1, 0, 2, []), (.invokevirtual 139, 3, 2, 32, [(0, 0), (0, 0), (0, 0)])]
def KX2_assign_25 : List RI := [(.putfield 142, 3, 0, 286, []), (.aload_n 1, 1, 0, 1, []), (.getfield 142, 3, 0, 286, []), (.lreturn, 1, 0, 0, [])]
def KX2_assign : RB := [(0, KX2_assign_0), (15, KX2_assign_15), (19, KX2_assign_19), (25, KX2_assign_25)]
def rX2_assign : CmC := (yX2_assign, cX2_assign, 4, (some .long), 2, 3, false)
theorem hX2_assign : mtC[29]? = some rX2_assign := rfl
set_option maxRecDepth 100000 in
theorem okX2_assign : cokMC rX2_assign KX2_assign = true := cokMC_of [] (fun _ h => absurd h List.not_mem_nil) (by decide +kernel) (by decide +kernel)
def KX2_assignRow_0 : List RI := [(.lload_n 2, 1, 0, 2, []), (.lstore 4, 2, 0, 0, []), (.aload_n 1, 1, 0, 1, []), (.astore 6, 2, 0, 0, [])]
def KX2_assignRow_6 : List RI := [(.aload 6, 2, 0, 0, []), (.ifnull 23, 3, 0, 31, [])]
def KX2_assignRow_11 : List RI := [(.aload_n 0, 1, 0, 0, []), (.aload 6, 2, 0, 0, []), (.lload 4, 2, 0, 0, []), (.invokevirtual 131, 3, 2, 29, [(0, 0), (0, 0), (0, 0)]), (.lstore 4, 2, 0, 0, []), (.aload 6, 2, 0, 0, []), (.getfield 63, 3, 0, 275, []), (.astore 6, 2, 0, 0, []), (.goto (-22), 3, 0, 6, [])]
def KX2_assignRow_31 : List RI := [(.lload 4, 2, 0, 0, []), (.lreturn, 1, 0, 0, [])]
def KX2_assignRow : RB := [(0, KX2_assignRow_0), (6, KX2_assignRow_6), (11, KX2_assignRow_11), (31, KX2_assignRow_31)]
def rX2_assignRow : CmC := (yX2_assignRow, cX2_assignRow, 7, (some .long), 2, 3, false)
theorem hX2_assignRow : mtC[30]? = some rX2_assignRow := rfl
set_option maxRecDepth 100000 in
theorem okX2_assignRow : cokMC rX2_assignRow KX2_assignRow = true := cokMC_of [] (fun _ h => absurd h List.not_mem_nil) (by decide +kernel) (by decide +kernel)
def KX2_assignBody_0 : List RI := [(.aload_n 1, 1, 0, 1, []), (.getfield 56, 3, 0, 276, []), (.ifnonnull 7, 3, 0, 11, [])]
def KX2_assignBody_7 : List RI := [(.lload_n 2, 1, 0, 2, []), (.goto 12, 3, 0, 20, [])]
def KX2_assignBody_11 : List RI := [(.aload_n 0, 1, 0, 0, []), (.aload_n 1, 1, 0, 1, []), (.getfield 56, 3, 0, 276, []), (.lload_n 2, 1, 0, 2, []), (.invokevirtual 131, 3, 2, 29, [(0, 0), (0, 0), (0, 0)])]
def KX2_assignBody_20 : List RI := [(.lreturn, 1, 0, 0, [])]
def KX2_assignBody : RB := [(0, KX2_assignBody_0), (7, KX2_assignBody_7), (11, KX2_assignBody_11), (20, KX2_assignBody_20)]
def rX2_assignBody : CmC := (yX2_assignBody, cX2_assignBody, 4, (some .long), 2, 3, false)
theorem hX2_assignBody : mtC[31]? = some rX2_assignBody := rfl
set_option maxRecDepth 100000 in
theorem okX2_assignBody : cokMC rX2_assignBody KX2_assignBody = true := cokMC_of [] (fun _ h => absurd h List.not_mem_nil) (by decide +kernel) (by decide +kernel)
def KX2_behind_0 : List RI := [(.aload_n 1, 1, 0, 1, []), (.getfield 79, 3, 0, 270, []), (.lookupswitch 243 #[(2, 148), (6, 199), (56, 215), (58, 222), (59, 222), (60, 222), (61, 229), (64, 189), (65, 189), (66, 175), (67, 175), (68, 236), (90, 165), (91, 158), (92, 148), (93, 158), (94, 165)], 148, 0, 247, [(2, 152), (6, 203), (56, 219), (58, 226), (59, 226), (60, 226), (61, 233), (64, 193), (65, 193), (66, 179), (67, 179), (68, 240), (90, 169), (91, 162), (92, 152), (93, 162), (94, 169)])]
def KX2_behind_152 : List RI := [(.aload_n 0, 1, 0, 0, []), (.aload_n 1, 1, 0, 1, []), (.getfield 56, 3, 0, 276, []), (.lload_n 2, 1, 0, 2, []), (.invokevirtual 144, 3, 2, 30, [(0, 0), (0, 0), (0, 0)]), (.lreturn, 1, 0, 0, [])]
def KX2_behind_162 : List RI := [(.aload_n 0, 1, 0, 0, []), (.aload_n 1, 1, 0, 1, []), (.lload_n 2, 1, 0, 2, []), (.invokevirtual 147, 3, 2, 33, [(0, 0), (0, 0), (0, 0)]), (.lreturn, 1, 0, 0, [])]
def KX2_behind_169 : List RI := [(.aload_n 0, 1, 0, 0, []), (.aload_n 1, 1, 0, 1, []), (.getfield 150, 3, 0, 279, []), (.lload_n 2, 1, 0, 2, []), (.invokevirtual 154, 3, 2, 39, [(0, 0), (0, 0), (0, 0)]), (.lreturn, 1, 0, 0, [])]
def KX2_behind_179 : List RI := [(.aload_n 0, 1, 0, 0, []), (.aload_n 1, 1, 0, 1, []), (.getfield 150, 3, 0, 279, []), (.lload_n 2, 1, 0, 2, []), (.invokevirtual 154, 3, 2, 39, [(0, 0), (0, 0), (0, 0)]), (.pop2, 1, 0, 0, []), (.ldc2_w 158, 3, (-1), 0, []), (.lreturn, 1, 0, 0, [])]
def KX2_behind_193 : List RI := [(.aload_n 0, 1, 0, 0, []), (.aload_n 1, 1, 0, 1, []), (.lload_n 2, 1, 0, 2, []), (.invokevirtual 160, 3, 2, 34, [(0, 0), (0, 0), (0, 0)]), (.ldc2_w 158, 3, (-1), 0, []), (.lreturn, 1, 0, 0, [])]
def KX2_behind_203 : List RI := [(.aload_n 0, 1, 0, 0, []), (.aload_n 1, 1, 0, 1, []), (.lload_n 2, 1, 0, 2, []), (.invokevirtual 164, 3, 2, 31, [(0, 0), (0, 0), (0, 0)]), (.lstore 4, 2, 0, 0, []), (.lload 4, 2, 0, 0, []), (.aload_n 1, 1, 0, 1, []), (.getfield 167, 3, 0, 287, []), (.land, 1, 0, 0, []), (.lreturn, 1, 0, 0, [])]
def KX2_behind_219 : List RI := [(.aload_n 0, 1, 0, 0, []), (.aload_n 1, 1, 0, 1, []), (.lload_n 2, 1, 0, 2, []), (.invokevirtual 170, 3, 2, 35, [(0, 0), (0, 0), (0, 0)]), (.lreturn, 1, 0, 0, [])]
def KX2_behind_226 : List RI := [(.aload_n 0, 1, 0, 0, []), (.aload_n 1, 1, 0, 1, []), (.lload_n 2, 1, 0, 2, []), (.invokevirtual 173, 3, 2, 36, [(0, 0), (0, 0), (0, 0)]), (.lreturn, 1, 0, 0, [])]
def KX2_behind_233 : List RI := [(.aload_n 0, 1, 0, 0, []), (.aload_n 1, 1, 0, 1, []), (.lload_n 2, 1, 0, 2, []), (.invokevirtual 176, 3, 2, 37, [(0, 0), (0, 0), (0, 0)]), (.lreturn, 1, 0, 0, [])]
def KX2_behind_240 : List RI := [(.aload_n 0, 1, 0, 0, []), (.aload_n 1, 1, 0, 1, []), (.lload_n 2, 1, 0, 2, []), (.invokevirtual 179, 3, 2, 38, [(0, 0), (0, 0), (0, 0)]), (.lreturn, 1, 0, 0, [])]
def KX2_behind_247 : List RI := [(.lload_n 2, 1, 0, 2, []), (.lreturn, 1, 0, 0, [])]
def KX2_behind : RB := [(0, KX2_behind_0), (152, KX2_behind_152), (162, KX2_behind_162), (169, KX2_behind_169), (179, KX2_behind_179), (193, KX2_behind_193), (203, KX2_behind_203), (219, KX2_behind_219), (226, KX2_behind_226), (233, KX2_behind_233), (240, KX2_behind_240), (247, KX2_behind_247)]
def rX2_behind : CmC := (yX2_behind, cX2_behind, 6, (some .long), 2, 3, false)
theorem hX2_behind : mtC[32]? = some rX2_behind := rfl
set_option maxRecDepth 100000 in
theorem swX2_behind_4 : decode cX2_behind 4 = .ok (.lookupswitch 243 #[(2, 148), (6, 199), (56, 215), (58, 222), (59, 222), (60, 222), (61, 229), (64, 189), (65, 189), (66, 175), (67, 175), (68, 236), (90, 165), (91, 158), (92, 148), (93, 158), (94, 165)], 148) := by decide +kernel
set_option maxRecDepth 100000 in
theorem okX2_behind : cokMC rX2_behind KX2_behind = true := cokMC_of [(4, .lookupswitch 243 #[(2, 148), (6, 199), (56, 215), (58, 222), (59, 222), (60, 222), (61, 229), (64, 189), (65, 189), (66, 175), (67, 175), (68, 236), (90, 165), (91, 158), (92, 148), (93, 158), (94, 165)], 148)] (fun q hq => by
  obtain rfl := List.mem_singleton.mp hq
  exact swX2_behind_4) (by decide +kernel) (by decide +kernel)
def KX2_behindTold_0 : List RI := [(.aload_n 1, 1, 0, 1, []), (.getfield 182, 3, 0, 280, []), (.ifCond .lt 13, 3, 0, 17, [])]
def KX2_behindTold_7 : List RI := [(.aload_n 1, 1, 0, 1, []), (.getfield 182, 3, 0, 280, []), (.invokestatic 127, 3, 1, 222, []), (.goto 4, 3, 0, 18, [])]
def KX2_behindTold_17 : List RI := [(.lconst 0, 1, 0, 0, [])]
def KX2_behindTold_18 : List RI := [(.lstore 4, 2, 0, 0, []), (.aload_n 1, 1, 0, 1, []), (.getfield 150, 3, 0, 279, []), (.ifnonnull 12, 3, 0, 36, [])]
def KX2_behindTold_27 : List RI := [(.lload_n 2, 1, 0, 2, []), (.lload 4, 2, 0, 0, []), (.ldc2_w 158, 3, (-1), 0, []), (.lxor, 1, 0, 0, []), (.land, 1, 0, 0, []), (.lreturn, 1, 0, 0, [])]
def KX2_behindTold_36 : List RI := [(.aload_n 0, 1, 0, 0, []), (.aload_n 1, 1, 0, 1, []), (.getfield 150, 3, 0, 279, []), (.lload_n 2, 1, 0, 2, []), (.lload 4, 2, 0, 0, []), (.ldc2_w 158, 3, (-1), 0, []), (.lxor, 1, 0, 0, []), (.land, 1, 0, 0, []), (.invokevirtual 154, 3, 2, 39, [(0, 0), (0, 0), (0, 0)]), (.lload 4, 2, 0, 0, []), (.lor, 1, 0, 0, []), (.lreturn, 1, 0, 0, [])]
def KX2_behindTold : RB := [(0, KX2_behindTold_0), (7, KX2_behindTold_7), (17, KX2_behindTold_17), (18, KX2_behindTold_18), (27, KX2_behindTold_27), (36, KX2_behindTold_36)]
def rX2_behindTold : CmC := (yX2_behindTold, cX2_behindTold, 6, (some .long), 2, 3, false)
theorem hX2_behindTold : mtC[33]? = some rX2_behindTold := rfl
set_option maxRecDepth 100000 in
theorem okX2_behindTold : cokMC rX2_behindTold KX2_behindTold = true := cokMC_of [] (fun _ h => absurd h List.not_mem_nil) (by decide +kernel) (by decide +kernel)
def KX2_leadTo_0 : List RI := [(.lload_n 2, 1, 0, 2, []), (.lstore 4, 2, 0, 0, []), (.aload_n 1, 1, 0, 1, []), (.astore 6, 2, 0, 0, [])]
def KX2_leadTo_6 : List RI := [(.aload 6, 2, 0, 0, []), (.ifnull 46, 3, 0, 54, [])]
def KX2_leadTo_11 : List RI := [(.aload 6, 2, 0, 0, []), (.aload_n 1, 1, 0, 1, []), (.getfield 111, 3, 0, 281, []), (.if_acmp .eq 37, 3, 0, 54, [])]
def KX2_leadTo_20 : List RI := [(.aload 6, 2, 0, 0, []), (.invokevirtual 114, 3, 0, 181, [(0, 0), (0, 0), (0, 0), (0, 0), (0, 0), (0, 0), (0, 0), (0, 0), (0, 0)]), (.ifCond .eq 19, 3, 0, 44, [])]
def KX2_leadTo_28 : List RI := [(.lload 4, 2, 0, 0, []), (.aload 6, 2, 0, 0, []), (.getfield 118, 3, 0, 273, []), (.getfield 108, 3, 0, 278, []), (.getfield 142, 3, 0, 286, []), (.lor, 1, 0, 0, []), (.lstore 4, 2, 0, 0, [])]
def KX2_leadTo_44 : List RI := [(.aload 6, 2, 0, 0, []), (.getfield 118, 3, 0, 273, []), (.astore 6, 2, 0, 0, []), (.goto (-45), 3, 0, 6, [])]
def KX2_leadTo_54 : List RI := [(.aload_n 1, 1, 0, 1, []), (.getfield 111, 3, 0, 281, []), (.ifnull 29, 3, 0, 87, [])]
def KX2_leadTo_61 : List RI := [(.aload_n 1, 1, 0, 1, []), (.getfield 79, 3, 0, 270, []), (.bipush 64, 2, 0, 0, []), (.if_icmp .ne 20, 3, 0, 87, [])]
def KX2_leadTo_70 : List RI := [(.aload_n 1, 1, 0, 1, []), (.getfield 111, 3, 0, 281, []), (.dup, 1, 0, 0, []), (.getfield 167, 3, 0, 287, []), (.lload 4, 2, 0, 0, []), (.land, 1, 0, 0, []), (.putfield 167, 3, 0, 287, []), (.goto 24, 3, 0, 108, [])]
def KX2_leadTo_87 : List RI := [(.aload_n 1, 1, 0, 1, []), (.getfield 111, 3, 0, 281, []), (.ifnull 17, 3, 0, 108, [])]
def KX2_leadTo_94 : List RI := [(.aload_n 1, 1, 0, 1, []), (.getfield 111, 3, 0, 281, []), (.dup, 1, 0, 0, []), (.getfield 185, 3, 0, 288, []), (.lload 4, 2, 0, 0, []), (.land, 1, 0, 0, []), (.putfield 185, 3, 0, 288, [])]
def KX2_leadTo_108 : List RI := [(.return_, 1, 0, 0, [])]
def KX2_leadTo : RB := [(0, KX2_leadTo_0), (6, KX2_leadTo_6), (11, KX2_leadTo_11), (20, KX2_leadTo_20), (28, KX2_leadTo_28), (44, KX2_leadTo_44), (54, KX2_leadTo_54), (61, KX2_leadTo_61), (70, KX2_leadTo_70), (87, KX2_leadTo_87), (94, KX2_leadTo_94), (108, KX2_leadTo_108)]
def rX2_leadTo : CmC := (yX2_leadTo, cX2_leadTo, 7, none, 2, 3, false)
theorem hX2_leadTo : mtC[34]? = some rX2_leadTo := rfl
set_option maxRecDepth 100000 in
theorem okX2_leadTo : cokMC rX2_leadTo KX2_leadTo = true := cokMC_of [] (fun _ h => absurd h List.not_mem_nil) (by decide +kernel) (by decide +kernel)
def KX2_behindIf_0 : List RI := [(.aload_n 0, 1, 0, 0, []), (.aload_n 1, 1, 0, 1, []), (.getfield 150, 3, 0, 279, []), (.lload_n 2, 1, 0, 2, []), (.invokevirtual 154, 3, 2, 39, [(0, 0), (0, 0), (0, 0)]), (.pop2, 1, 0, 0, []), (.aload_n 0, 1, 0, 0, []), (.getfield 188, 3, 0, 92, []), (.lstore 4, 2, 0, 0, []), (.aload_n 0, 1, 0, 0, []), (.aload_n 1, 1, 0, 1, []), (.aload_n 0, 1, 0, 0, []), (.getfield 191, 3, 0, 91, []), (.invokevirtual 164, 3, 2, 31, [(0, 0), (0, 0), (0, 0)]), (.lstore 6, 2, 0, 0, []), (.lload 6, 2, 0, 0, []), (.aload_n 1, 1, 0, 1, []), (.getfield 88, 3, 0, 277, []), (.ifnonnull 8, 3, 0, 41, [])]
def KX2_behindIf_36 : List RI := [(.lload 4, 2, 0, 0, []), (.goto 13, 3, 0, 51, [])]
def KX2_behindIf_41 : List RI := [(.aload_n 0, 1, 0, 0, []), (.aload_n 1, 1, 0, 1, []), (.getfield 88, 3, 0, 277, []), (.lload 4, 2, 0, 0, []), (.invokevirtual 131, 3, 2, 29, [(0, 0), (0, 0), (0, 0)])]
def KX2_behindIf_51 : List RI := [(.land, 1, 0, 0, []), (.lreturn, 1, 0, 0, [])]
def KX2_behindIf : RB := [(0, KX2_behindIf_0), (36, KX2_behindIf_36), (41, KX2_behindIf_41), (51, KX2_behindIf_51)]
def rX2_behindIf : CmC := (yX2_behindIf, cX2_behindIf, 8, (some .long), 2, 3, false)
theorem hX2_behindIf : mtC[35]? = some rX2_behindIf := rfl
set_option maxRecDepth 100000 in
theorem okX2_behindIf : cokMC rX2_behindIf KX2_behindIf = true := cokMC_of [] (fun _ h => absurd h List.not_mem_nil) (by decide +kernel) (by decide +kernel)
def KX2_behindLoop_0 : List RI := [(.aload_n 1, 1, 0, 1, []), (.getfield 79, 3, 0, 270, []), (.bipush 59, 2, 0, 0, []), (.if_icmp .ne 37, 3, 0, 43, [])]
def KX2_behindLoop_9 : List RI := [(.aload_n 0, 1, 0, 0, []), (.aload_n 1, 1, 0, 1, []), (.lload_n 2, 1, 0, 2, []), (.invokevirtual 164, 3, 2, 31, [(0, 0), (0, 0), (0, 0)]), (.lstore 4, 2, 0, 0, []), (.aload_n 0, 1, 0, 0, []), (.aload_n 1, 1, 0, 1, []), (.getfield 150, 3, 0, 279, []), (.lload 4, 2, 0, 0, []), (.aload_n 1, 1, 0, 1, []), (.getfield 185, 3, 0, 288, []), (.land, 1, 0, 0, []), (.invokevirtual 154, 3, 2, 39, [(0, 0), (0, 0), (0, 0)]), (.pop2, 1, 0, 0, []), (.aload_n 0, 1, 0, 0, []), (.getfield 188, 3, 0, 92, []), (.aload_n 1, 1, 0, 1, []), (.getfield 167, 3, 0, 287, []), (.land, 1, 0, 0, []), (.lreturn, 1, 0, 0, [])]
def KX2_behindLoop_43 : List RI := [(.aload_n 1, 1, 0, 1, []), (.getfield 79, 3, 0, 270, []), (.bipush 60, 2, 0, 0, []), (.if_icmp .ne 15, 3, 0, 64, [])]
def KX2_behindLoop_52 : List RI := [(.aload_n 0, 1, 0, 0, []), (.aload_n 1, 1, 0, 1, []), (.getfield 88, 3, 0, 277, []), (.lload_n 2, 1, 0, 2, []), (.invokevirtual 144, 3, 2, 30, [(0, 0), (0, 0), (0, 0)]), (.goto 4, 3, 0, 65, [])]
def KX2_behindLoop_64 : List RI := [(.lload_n 2, 1, 0, 2, [])]
def KX2_behindLoop_65 : List RI := [(.lstore 4, 2, 0, 0, []), (.aload_n 0, 1, 0, 0, []), (.aload_n 1, 1, 0, 1, []), (.getfield 150, 3, 0, 279, []), (.lload 4, 2, 0, 0, []), (.invokevirtual 154, 3, 2, 39, [(0, 0), (0, 0), (0, 0)]), (.pop2, 1, 0, 0, []), (.aload_n 1, 1, 0, 1, []), (.getfield 150, 3, 0, 279, []), (.ifnonnull 9, 3, 0, 91, [])]
def KX2_behindLoop_85 : List RI := [(.ldc2_w 158, 3, (-1), 0, []), (.goto 7, 3, 0, 95, [])]
def KX2_behindLoop_91 : List RI := [(.aload_n 0, 1, 0, 0, []), (.getfield 188, 3, 0, 92, [])]
def KX2_behindLoop_95 : List RI := [(.lstore 6, 2, 0, 0, []), (.aload_n 0, 1, 0, 0, []), (.aload_n 1, 1, 0, 1, []), (.aload_n 0, 1, 0, 0, []), (.getfield 191, 3, 0, 91, []), (.invokevirtual 164, 3, 2, 31, [(0, 0), (0, 0), (0, 0)]), (.lstore 8, 2, 0, 0, []), (.aload_n 1, 1, 0, 1, []), (.getfield 79, 3, 0, 270, []), (.bipush 60, 2, 0, 0, []), (.if_icmp .ne 19, 3, 0, 133, [])]
def KX2_behindLoop_117 : List RI := [(.aload_n 0, 1, 0, 0, []), (.aload_n 1, 1, 0, 1, []), (.getfield 108, 3, 0, 278, []), (.lload 8, 2, 0, 0, []), (.aload_n 1, 1, 0, 1, []), (.getfield 185, 3, 0, 288, []), (.land, 1, 0, 0, []), (.invokevirtual 144, 3, 2, 30, [(0, 0), (0, 0), (0, 0)]), (.pop2, 1, 0, 0, [])]
def KX2_behindLoop_133 : List RI := [(.lload 6, 2, 0, 0, []), (.aload_n 1, 1, 0, 1, []), (.getfield 167, 3, 0, 287, []), (.land, 1, 0, 0, []), (.lreturn, 1, 0, 0, [])]
def KX2_behindLoop : RB := [(0, KX2_behindLoop_0), (9, KX2_behindLoop_9), (43, KX2_behindLoop_43), (52, KX2_behindLoop_52), (64, KX2_behindLoop_64), (65, KX2_behindLoop_65), (85, KX2_behindLoop_85), (91, KX2_behindLoop_91), (95, KX2_behindLoop_95), (117, KX2_behindLoop_117), (133, KX2_behindLoop_133)]
def rX2_behindLoop : CmC := (yX2_behindLoop, cX2_behindLoop, 10, (some .long), 2, 3, false)
theorem hX2_behindLoop : mtC[36]? = some rX2_behindLoop := rfl
set_option maxRecDepth 100000 in
theorem okX2_behindLoop : cokMC rX2_behindLoop KX2_behindLoop = true := cokMC_of [] (fun _ h => absurd h List.not_mem_nil) (by decide +kernel) (by decide +kernel)
def KX2_behindSwitch_0 : List RI := [(.aload_n 0, 1, 0, 0, []), (.aload_n 1, 1, 0, 1, []), (.getfield 150, 3, 0, 279, []), (.lload_n 2, 1, 0, 2, []), (.invokevirtual 154, 3, 2, 39, [(0, 0), (0, 0), (0, 0)]), (.lstore 4, 2, 0, 0, []), (.ldc2_w 158, 3, (-1), 0, []), (.lstore 6, 2, 0, 0, []), (.iconst 0, 1, 0, 0, []), (.istore 8, 2, 0, 0, []), (.aload_n 1, 1, 0, 1, []), (.getfield 56, 3, 0, 276, []), (.astore 9, 2, 0, 0, [])]
def KX2_behindSwitch_25 : List RI := [(.aload 9, 2, 0, 0, []), (.ifnull 73, 3, 0, 100, [])]
def KX2_behindSwitch_30 : List RI := [(.aload 9, 2, 0, 0, []), (.getfield 79, 3, 0, 270, []), (.bipush 62, 2, 0, 0, []), (.if_icmp .eq 13, 3, 0, 50, [])]
def KX2_behindSwitch_40 : List RI := [(.aload 9, 2, 0, 0, []), (.getfield 79, 3, 0, 270, []), (.bipush 63, 2, 0, 0, []), (.if_icmp .ne 33, 3, 0, 80, [])]
def KX2_behindSwitch_50 : List RI := [(.lload 6, 2, 0, 0, []), (.lload 4, 2, 0, 0, []), (.land, 1, 0, 0, []), (.lstore 6, 2, 0, 0, []), (.iload 8, 2, 0, 0, []), (.aload 9, 2, 0, 0, []), (.getfield 79, 3, 0, 270, []), (.bipush 63, 2, 0, 0, []), (.if_icmp .ne 7, 3, 0, 73, [])]
def KX2_behindSwitch_69 : List RI := [(.iconst 1, 1, 0, 0, []), (.goto 4, 3, 0, 74, [])]
def KX2_behindSwitch_73 : List RI := [(.iconst 0, 1, 0, 0, [])]
def KX2_behindSwitch_74 : List RI := [(.ior, 1, 0, 0, []), (.istore 8, 2, 0, 0, []), (.goto 13, 3, 0, 90, [])]
def KX2_behindSwitch_80 : List RI := [(.aload_n 0, 1, 0, 0, []), (.aload 9, 2, 0, 0, []), (.lload 6, 2, 0, 0, []), (.invokevirtual 131, 3, 2, 29, [(0, 0), (0, 0), (0, 0)]), (.lstore 6, 2, 0, 0, [])]
def KX2_behindSwitch_90 : List RI := [(.aload 9, 2, 0, 0, []), (.getfield 63, 3, 0, 275, []), (.astore 9, 2, 0, 0, []), (.goto (-72), 3, 0, 25, [])]
def KX2_behindSwitch_100 : List RI := [(.iload 8, 2, 0, 0, []), (.ifCond .eq 8, 3, 0, 110, [])]
def KX2_behindSwitch_105 : List RI := [(.lload 6, 2, 0, 0, []), (.goto 8, 3, 0, 115, [])]
def KX2_behindSwitch_110 : List RI := [(.lload 6, 2, 0, 0, []), (.lload 4, 2, 0, 0, []), (.land, 1, 0, 0, [])]
def KX2_behindSwitch_115 : List RI := [(.aload_n 1, 1, 0, 1, []), (.getfield 167, 3, 0, 287, []), (.land, 1, 0, 0, []), (.lreturn, 1, 0, 0, [])]
def KX2_behindSwitch : RB := [(0, KX2_behindSwitch_0), (25, KX2_behindSwitch_25), (30, KX2_behindSwitch_30), (40, KX2_behindSwitch_40), (50, KX2_behindSwitch_50), (69, KX2_behindSwitch_69), (73, KX2_behindSwitch_73), (74, KX2_behindSwitch_74), (80, KX2_behindSwitch_80), (90, KX2_behindSwitch_90), (100, KX2_behindSwitch_100), (105, KX2_behindSwitch_105), (110, KX2_behindSwitch_110), (115, KX2_behindSwitch_115)]
def rX2_behindSwitch : CmC := (yX2_behindSwitch, cX2_behindSwitch, 10, (some .long), 2, 3, false)
theorem hX2_behindSwitch : mtC[37]? = some rX2_behindSwitch := rfl
set_option maxRecDepth 100000 in
theorem okX2_behindSwitch : cokMC rX2_behindSwitch KX2_behindSwitch = true := cokMC_of [] (fun _ h => absurd h List.not_mem_nil) (by decide +kernel) (by decide +kernel)
def KX2_behindTry_0 : List RI := [(.aload_n 1, 1, 0, 1, []), (.getfield 108, 3, 0, 278, []), (.ifnonnull 7, 3, 0, 11, [])]
def KX2_behindTry_7 : List RI := [(.lconst 0, 1, 0, 0, []), (.goto 12, 3, 0, 20, [])]
def KX2_behindTry_11 : List RI := [(.aload_n 0, 1, 0, 0, []), (.aload_n 1, 1, 0, 1, []), (.getfield 108, 3, 0, 278, []), (.lload_n 2, 1, 0, 2, []), (.invokevirtual 131, 3, 2, 29, [(0, 0), (0, 0), (0, 0)])]
def KX2_behindTry_20 : List RI := [(.lstore 4, 2, 0, 0, []), (.aload_n 0, 1, 0, 0, []), (.aload_n 1, 1, 0, 1, []), (.lload_n 2, 1, 0, 2, []), (.invokevirtual 164, 3, 2, 31, [(0, 0), (0, 0), (0, 0)]), (.lstore 6, 2, 0, 0, []), (.aload_n 1, 1, 0, 1, []), (.getfield 88, 3, 0, 277, []), (.ifnull 36, 3, 0, 70, [])]
def KX2_behindTry_37 : List RI := [(.lload 6, 2, 0, 0, []), (.aload_n 0, 1, 0, 0, []), (.aload_n 1, 1, 0, 1, []), (.getfield 88, 3, 0, 277, []), (.aload_n 1, 1, 0, 1, []), (.getfield 182, 3, 0, 280, []), (.ifCond .lt 15, 3, 0, 63, [])]
def KX2_behindTry_51 : List RI := [(.lload_n 2, 1, 0, 2, []), (.aload_n 1, 1, 0, 1, []), (.getfield 182, 3, 0, 280, []), (.invokestatic 127, 3, 1, 222, []), (.lor, 1, 0, 0, []), (.goto 4, 3, 0, 64, [])]
def KX2_behindTry_63 : List RI := [(.lload_n 2, 1, 0, 2, [])]
def KX2_behindTry_64 : List RI := [(.invokevirtual 131, 3, 2, 29, [(0, 0), (0, 0), (0, 0)]), (.land, 1, 0, 0, []), (.lstore 6, 2, 0, 0, [])]
def KX2_behindTry_70 : List RI := [(.lload 6, 2, 0, 0, []), (.lload 4, 2, 0, 0, []), (.lor, 1, 0, 0, []), (.lreturn, 1, 0, 0, [])]
def KX2_behindTry : RB := [(0, KX2_behindTry_0), (7, KX2_behindTry_7), (11, KX2_behindTry_11), (20, KX2_behindTry_20), (37, KX2_behindTry_37), (51, KX2_behindTry_51), (63, KX2_behindTry_63), (64, KX2_behindTry_64), (70, KX2_behindTry_70)]
def rX2_behindTry : CmC := (yX2_behindTry, cX2_behindTry, 8, (some .long), 2, 3, false)
theorem hX2_behindTry : mtC[38]? = some rX2_behindTry := rfl
set_option maxRecDepth 100000 in
theorem okX2_behindTry : cokMC rX2_behindTry KX2_behindTry = true := cokMC_of [] (fun _ h => absurd h List.not_mem_nil) (by decide +kernel) (by decide +kernel)
def KX2_behindExp_0 : List RI := [(.aload_n 0, 1, 0, 0, []), (.lload_n 2, 1, 0, 2, []), (.putfield 191, 3, 0, 91, []), (.aload_n 0, 1, 0, 0, []), (.lload_n 2, 1, 0, 2, []), (.putfield 188, 3, 0, 92, []), (.aload_n 0, 1, 0, 0, []), (.iconst 0, 1, 0, 0, []), (.putfield 194, 3, 0, 94, []), (.aload_n 1, 1, 0, 1, []), (.ifnull 58, 3, 0, 74, [])]
def KX2_behindExp_19 : List RI := [(.aload_n 1, 1, 0, 1, []), (.getfield 197, 3, 0, 63, []), (.istore 4, 2, 0, 0, [])]
def KX2_behindExp_25 : List RI := [(.iload 4, 2, 0, 0, []), (.aload_n 1, 1, 0, 1, []), (.getfield 202, 3, 0, 65, []), (.if_icmp .gt 43, 3, 0, 74, [])]
def KX2_behindExp_34 : List RI := [(.iload 4, 2, 0, 0, []), (.aload_n 0, 1, 0, 0, []), (.getfield 15, 3, 0, 90, []), (.getfield 205, 3, 0, 213, []), (.invokevirtual 25, 3, 0, 234, []), (.if_icmp .ge 28, 3, 0, 74, [])]
def KX2_behindExp_49 : List RI := [(.aload_n 0, 1, 0, 0, []), (.aload_n 0, 1, 0, 0, []), (.getfield 15, 3, 0, 90, []), (.getfield 205, 3, 0, 213, []), (.iload 4, 2, 0, 0, []), (.invokevirtual 31, 3, 1, 235, []), (.checkcast 198, 3, 0, 2, []), (.invokevirtual 208, 3, 1, 40, [(0, 0), (0, 0), (0, 0)]), (.iinc 4 1, 3, 0, 0, []), (.goto (-46), 3, 0, 25, [])]
def KX2_behindExp_74 : List RI := [(.aload_n 0, 1, 0, 0, []), (.getfield 191, 3, 0, 91, []), (.aload_n 0, 1, 0, 0, []), (.getfield 188, 3, 0, 92, []), (.land, 1, 0, 0, []), (.lreturn, 1, 0, 0, [])]
def KX2_behindExp : RB := [(0, KX2_behindExp_0), (19, KX2_behindExp_19), (25, KX2_behindExp_25), (34, KX2_behindExp_34), (49, KX2_behindExp_49), (74, KX2_behindExp_74)]
def rX2_behindExp : CmC := (yX2_behindExp, cX2_behindExp, 5, (some .long), 2, 3, false)
theorem hX2_behindExp : mtC[39]? = some rX2_behindExp := rfl
set_option maxRecDepth 100000 in
theorem okX2_behindExp : cokMC rX2_behindExp KX2_behindExp = true := cokMC_of [] (fun _ h => absurd h List.not_mem_nil) (by decide +kernel) (by decide +kernel)

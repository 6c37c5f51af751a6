section RSO
variable {p : Program} {l : Launch} {e : Env} {s : State} {m : MethodId} {args : Array Value} {below : List Frame} {meth : Method} {c : Code}
/-- the machine at a place of a method of the reference, in a state that holds σ, comes to its end -/
def rG (p : Program) (l : Launch) (e : Env) (s : State) (m : MethodId) (args : Array Value) (below : List Frame) (meth : Method) (c : Code) (lev nL : Nat) (D : va_G) (h : Nat) (ad : Nat → Nat) (cA : Nat → ClassId) (σ0 : RS) (Z : Option Value → RS → Prop) : RK := fun pc ls st σ =>
  ∀ (H : Heap) (locs : List Loc) (a : Array Slot), lv_has a nL (rlm h ad ls) → va_P D vwCl (RW h ad cA σ) H → va_D (va_A (RW h ad cA σ0) s.heap.size) (RW h ad cA σ) → va_S (va_A (RW h ad cA σ0) s.heap.size) s.heap H locs →
    W p l e { frames := lev, cells := 0, slots := 0, locals := 100 * lev } s m args below meth c H locs 0 0 (MQ below (rQc D h ad cA σ0 s.heap.size Z) args s 0 0 (va_A (RW h ad cA σ0) s.heap.size)) (F0 m pc a (st.map (rcv h ad)))
/-- what a method's walk rests on -/
def rE (p : Program) (s : State) (m : MethodId) (args : Array Value) (meth : Method) (c : Code) (cc : ByteArray) (nL : Nat) (ret : Option FieldType) (D : va_G) (cA : Nat → ClassId) (Ts : List Jvm.Cond) : Prop :=
  p.tables.exec = Jvm.exec ∧ c.code = cc ∧ c.maxLocals = nL ∧ meth.sig.returnType = ret ∧ meth.locks = false ∧ s.vm.findClass RX12 = some m.cls ∧ (∀ w ∈ Ts, w.before args s = true) ∧ (∀ w ∈ wG, w ∈ Ts) ∧ va_K D vwCl (RT cA) s
set_option maxHeartbeats 4000000 in
theorem rst_ok {lev nL : Nat} {cc : ByteArray} {ret : Option FieldType} {D : va_G} {h : Nat} {ad : Nat → Nat} {cA : Nat → ClassId} {σ0 : RS} {Z : Option Value → RS → Prop} {Ts : List Jvm.Cond} {ct : RC} {K k : RK}
    (hE : rE p s m args meth c cc nL ret D cA Ts) (hct : ∀ q ∈ ct, ∃ lv, lv < lev ∧ RMet l lv q.1 q.2.1 q.2.2)
    (hK : ∀ pc ls st σ, K pc ls st σ → rG p l e s m args below meth c lev nL D h ad cA σ0 Z pc ls st σ)
    {x : RI} {pc : Nat} (hok : rok cc nL ret x pc = true) (hk : ∀ ls st σ, k (pc + x.2.1) ls st σ → rG p l e s m args below meth c lev nL D h ad cA σ0 Z (pc + x.2.1) ls st σ)
    {ls : RL} {st : List Value} {σ : RS} (hw : rst ct K Z x pc ls st σ k) : rG p l e s m args below meth c lev nL D h ad cA σ0 Z pc ls st σ := by
  obtain ⟨hx, hb, hml, hr, hlocks, hown, hts, hG, hKt⟩ := hE
  intro H locs a hl hP hD hS
  obtain ⟨i, len, q1, q2, cs⟩ := x
  dsimp only at hk
  unfold rok at hok
  rw [Bool.and_eq_true] at hok
  obtain ⟨hd, hok⟩ := hok
  replace hd : decode cc pc = .ok (i, len) := of_decide_eq_true hd
  cases i with
  | iconst n =>
    dsimp only [rok2] at hok
    dsimp only [rst] at hw
    obtain rfl : len = 1 := by simpa using hok
    exact lv_iconst hx hb hd rfl (hk _ _ _ hw H locs a hl hP hD hS)
  | bipush n =>
    dsimp only [rok2] at hok
    dsimp only [rst] at hw
    simp only [Bool.and_eq_true, beq_iff_eq, decide_eq_true_eq] at hok
    obtain ⟨rfl, he⟩ := hok
    exact lv_bipush hx hb hd he (hk _ _ _ hw H locs a hl hP hD hS)
  | sipush n =>
    dsimp only [rok2] at hok
    dsimp only [rst] at hw
    simp only [Bool.and_eq_true, beq_iff_eq, decide_eq_true_eq] at hok
    obtain ⟨rfl, he⟩ := hok
    exact lv_sipush hx hb hd he (hk _ _ _ hw H locs a hl hP hD hS)
  | lconst n =>
    dsimp only [rok2] at hok
    dsimp only [rst] at hw
    obtain rfl : len = 1 := by simpa using hok
    exact lv_lconst hx hb hd rfl (hk _ _ _ hw H locs a hl hP hD hS)
  | ldc2_w n =>
    dsimp only [rok2] at hok
    dsimp only [rst] at hw
    simp only [Bool.and_eq_true, beq_iff_eq, decide_eq_true_eq] at hok
    obtain ⟨rfl, hm⟩ := hok
    exact lv_ldc2 hx hb hown (hts _ (hG _ (wG_L hm))) hd (hk _ _ _ hw H locs a hl hP hD hS)
  | iload_n n =>
    dsimp only [rok2] at hok
    dsimp only [rst] at hw
    simp only [Bool.and_eq_true, beq_iff_eq, decide_eq_true_eq] at hok
    obtain ⟨rfl, hi⟩ := hok
    split at hw
    next v hv => exact lv_iload_n hx hb hd hi (rlm_at hl hv) (hk _ _ _ hw H locs a hl hP hD hS)
    next => exact hw.elim
  | iload n =>
    dsimp only [rok2] at hok
    dsimp only [rst] at hw
    obtain rfl : len = 2 := by simpa using hok
    split at hw
    next v hv => exact lv_iload hx hb hd (rlm_at hl hv) (hk _ _ _ hw H locs a hl hP hD hS)
    next => exact hw.elim
  | lload_n n =>
    dsimp only [rok2] at hok
    dsimp only [rst] at hw
    simp only [Bool.and_eq_true, beq_iff_eq, decide_eq_true_eq] at hok
    obtain ⟨rfl, hi⟩ := hok
    split at hw
    next v hv => exact lv_lload_n hx hb hd hi (rlm_at hl hv) (hk _ _ _ hw H locs a hl hP hD hS)
    next => exact hw.elim
  | lload n =>
    dsimp only [rok2] at hok
    dsimp only [rst] at hw
    obtain rfl : len = 2 := by simpa using hok
    split at hw
    next v hv => exact lv_lload hx hb hd (rlm_at hl hv) (hk _ _ _ hw H locs a hl hP hD hS)
    next => exact hw.elim
  | aload_n n =>
    dsimp only [rok2] at hok
    dsimp only [rst] at hw
    simp only [Bool.and_eq_true, beq_iff_eq, decide_eq_true_eq] at hok
    obtain ⟨rfl, hi⟩ := hok
    split at hw
    next v hv => exact lv_aload_n hx hb hd hi (rlm_at hl hv) (hk _ _ _ hw H locs a hl hP hD hS)
    next => exact hw.elim
  | istore_n n =>
    dsimp only [rok2] at hok
    dsimp only [rst] at hw
    simp only [Bool.and_eq_true, beq_iff_eq, decide_eq_true_eq] at hok
    obtain ⟨⟨rfl, hn⟩, hi⟩ := hok
    split at hw
    next v r => exact lv_istore_n hx hb hd hi hl (by omega) (rlm_s1 (v := .int v)) (fun a' hl' => hk _ _ _ hw H locs a' hl' hP hD hS)
    next => exact hw.elim
  | istore n =>
    dsimp only [rok2] at hok
    dsimp only [rst] at hw
    simp only [Bool.and_eq_true, beq_iff_eq, decide_eq_true_eq] at hok
    obtain ⟨rfl, hn⟩ := hok
    split at hw
    next v r => exact lv_istore hx hb hd hl hn (rlm_s1 (v := .int v)) (fun a' hl' => hk _ _ _ hw H locs a' hl' hP hD hS)
    next => exact hw.elim
  | lstore_n n =>
    dsimp only [rok2] at hok
    dsimp only [rst] at hw
    simp only [Bool.and_eq_true, beq_iff_eq, decide_eq_true_eq] at hok
    obtain ⟨⟨rfl, hn⟩, hi⟩ := hok
    split at hw
    next v r => exact lv_lstore_n hx hb hd hi hl (by omega) (rlm_s2 (v := .long v)) (fun a' hl' => hk _ _ _ hw H locs a' hl' hP hD hS)
    next => exact hw.elim
  | lstore n =>
    dsimp only [rok2] at hok
    dsimp only [rst] at hw
    simp only [Bool.and_eq_true, beq_iff_eq, decide_eq_true_eq] at hok
    obtain ⟨rfl, hn⟩ := hok
    split at hw
    next v r => exact lv_lstore hx hb hd hl hn (rlm_s2 (v := .long v)) (fun a' hl' => hk _ _ _ hw H locs a' hl' hP hD hS)
    next => exact hw.elim
  | iinc n dd =>
    dsimp only [rok2] at hok
    dsimp only [rst] at hw
    simp only [Bool.and_eq_true, beq_iff_eq, decide_eq_true_eq] at hok
    obtain ⟨rfl, hn⟩ := hok
    split at hw
    next v hv =>
      obtain ⟨j, hj⟩ := List.getElem?_of_mem (List.mem_map.mpr ⟨(n, .int v), rlk_mem hv, rfl⟩ : (n, Value.int v) ∈ rlm h ad ls)
      exact lv_iinc hx hb hd hl hj rfl hn (rlm_s1 (v := .int (v + Int32.ofInt dd))) (fun a' hl' => hk _ _ _ hw H locs a' hl' hP hD hS)
    next => exact hw.elim
  | iadd =>
    dsimp only [rok2] at hok
    dsimp only [rst] at hw
    obtain rfl : len = 1 := by simpa using hok
    split at hw
    next => exact lv_iadd hx hb hd (hk _ _ _ hw H locs a hl hP hD hS)
    next => exact hw.elim
  | isub =>
    dsimp only [rok2] at hok
    dsimp only [rst] at hw
    obtain rfl : len = 1 := by simpa using hok
    split at hw
    next => exact lv_isub hx hb hd (hk _ _ _ hw H locs a hl hP hD hS)
    next => exact hw.elim
  | imul =>
    dsimp only [rok2] at hok
    dsimp only [rst] at hw
    obtain rfl : len = 1 := by simpa using hok
    split at hw
    next => exact lv_imul hx hb hd (hk _ _ _ hw H locs a hl hP hD hS)
    next => exact hw.elim
  | iand =>
    dsimp only [rok2] at hok
    dsimp only [rst] at hw
    obtain rfl : len = 1 := by simpa using hok
    split at hw
    next => exact lv_iand hx hb hd (hk _ _ _ hw H locs a hl hP hD hS)
    next => exact hw.elim
  | ior =>
    dsimp only [rok2] at hok
    dsimp only [rst] at hw
    obtain rfl : len = 1 := by simpa using hok
    split at hw
    next => exact lv_ior hx hb hd (hk _ _ _ hw H locs a hl hP hD hS)
    next => exact hw.elim
  | ishl =>
    dsimp only [rok2] at hok
    dsimp only [rst] at hw
    obtain rfl : len = 1 := by simpa using hok
    split at hw
    next => exact lv_ishl hx hb hd (hk _ _ _ (hw _ rfl) H locs a hl hP hD hS)
    next => exact hw.elim
  | ishr =>
    dsimp only [rok2] at hok
    dsimp only [rst] at hw
    obtain rfl : len = 1 := by simpa using hok
    split at hw
    next => exact lv_ishr hx hb hd (hk _ _ _ hw H locs a hl hP hD hS)
    next => exact hw.elim
  | iushr =>
    dsimp only [rok2] at hok
    dsimp only [rst] at hw
    obtain rfl : len = 1 := by simpa using hok
    split at hw
    next => exact lv_iushr hx hb hd rfl (hk _ _ _ (hw _ rfl) H locs a hl hP hD hS)
    next => exact hw.elim
  | ladd =>
    dsimp only [rok2] at hok
    dsimp only [rst] at hw
    obtain rfl : len = 1 := by simpa using hok
    split at hw
    next => exact lv_ladd hx hb hd (hk _ _ _ hw H locs a hl hP hD hS)
    next => exact hw.elim
  | lsub =>
    dsimp only [rok2] at hok
    dsimp only [rst] at hw
    obtain rfl : len = 1 := by simpa using hok
    split at hw
    next => exact lv_lsub hx hb hd (hk _ _ _ hw H locs a hl hP hD hS)
    next => exact hw.elim
  | lmul =>
    dsimp only [rok2] at hok
    dsimp only [rst] at hw
    obtain rfl : len = 1 := by simpa using hok
    split at hw
    next => exact lv_lmul hx hb hd (hk _ _ _ hw H locs a hl hP hD hS)
    next => exact hw.elim
  | land =>
    dsimp only [rok2] at hok
    dsimp only [rst] at hw
    obtain rfl : len = 1 := by simpa using hok
    split at hw
    next => exact lv_land hx hb hd (hk _ _ _ hw H locs a hl hP hD hS)
    next => exact hw.elim
  | lor =>
    dsimp only [rok2] at hok
    dsimp only [rst] at hw
    obtain rfl : len = 1 := by simpa using hok
    split at hw
    next => exact lv_lor hx hb hd (hk _ _ _ hw H locs a hl hP hD hS)
    next => exact hw.elim
  | lxor =>
    dsimp only [rok2] at hok
    dsimp only [rst] at hw
    obtain rfl : len = 1 := by simpa using hok
    split at hw
    next => exact lv_lxor hx hb hd (hk _ _ _ hw H locs a hl hP hD hS)
    next => exact hw.elim
  | ldiv =>
    dsimp only [rok2] at hok
    dsimp only [rst] at hw
    obtain rfl : len = 1 := by simpa using hok
    split at hw
    next => exact lv_ldiv hx hb hd hw.1 (hk _ _ _ hw.2 H locs a hl hP hD hS)
    next => exact hw.elim
  | lrem =>
    dsimp only [rok2] at hok
    dsimp only [rst] at hw
    obtain rfl : len = 1 := by simpa using hok
    split at hw
    next => exact lv_lrem hx hb hd hw.1 (hk _ _ _ (hw.2 _ rfl) H locs a hl hP hD hS)
    next => exact hw.elim
  | lneg =>
    dsimp only [rok2] at hok
    dsimp only [rst] at hw
    obtain rfl : len = 1 := by simpa using hok
    split at hw
    next => exact lv_lneg hx hb hd (hk _ _ _ hw H locs a hl hP hD hS)
    next => exact hw.elim
  | lshl =>
    dsimp only [rok2] at hok
    dsimp only [rst] at hw
    obtain rfl : len = 1 := by simpa using hok
    split at hw
    next => exact lv_lshl hx hb hd rfl (hk _ _ _ (hw _ rfl) H locs a hl hP hD hS)
    next => exact hw.elim
  | lshr =>
    dsimp only [rok2] at hok
    dsimp only [rst] at hw
    obtain rfl : len = 1 := by simpa using hok
    split at hw
    next => exact lv_lshr hx hb hd rfl (hk _ _ _ (hw _ rfl) H locs a hl hP hD hS)
    next => exact hw.elim
  | lushr =>
    dsimp only [rok2] at hok
    dsimp only [rst] at hw
    obtain rfl : len = 1 := by simpa using hok
    split at hw
    next => exact lv_lushr hx hb hd rfl (hk _ _ _ (hw _ rfl) H locs a hl hP hD hS)
    next => exact hw.elim
  | i2l =>
    dsimp only [rok2] at hok
    dsimp only [rst] at hw
    obtain rfl : len = 1 := by simpa using hok
    split at hw
    next => exact lv_i2l hx hb hd rfl (hk _ _ _ hw H locs a hl hP hD hS)
    next => exact hw.elim
  | l2i =>
    dsimp only [rok2] at hok
    dsimp only [rst] at hw
    obtain rfl : len = 1 := by simpa using hok
    split at hw
    next => exact lv_l2i hx hb hd rfl (hk _ _ _ hw H locs a hl hP hD hS)
    next => exact hw.elim
  | i2b =>
    dsimp only [rok2] at hok
    dsimp only [rst] at hw
    obtain rfl : len = 1 := by simpa using hok
    split at hw
    next => exact lv_i2b hx hb hd rfl (hk _ _ _ hw H locs a hl hP hD hS)
    next => exact hw.elim
  | i2c =>
    dsimp only [rok2] at hok
    dsimp only [rst] at hw
    obtain rfl : len = 1 := by simpa using hok
    split at hw
    next => exact lv_i2c hx hb hd rfl (hk _ _ _ hw H locs a hl hP hD hS)
    next => exact hw.elim
  | lcmp =>
    dsimp only [rok2] at hok
    dsimp only [rst] at hw
    obtain rfl : len = 1 := by simpa using hok
    split at hw
    next => exact W.lcmp hx hb hd (hk _ _ _ hw H locs a hl hP hD hS)
    next => exact hw.elim
  | dup =>
    dsimp only [rok2] at hok
    dsimp only [rst] at hw
    obtain rfl : len = 1 := by simpa using hok
    split at hw
    next => exact lv_dup hx hb hd rfl (hk _ _ _ hw H locs a hl hP hD hS)
    next => exact lv_dup hx hb hd rfl (hk _ _ _ hw H locs a hl hP hD hS)
    next => exact hw.elim
  | dup2 =>
    dsimp only [rok2] at hok
    dsimp only [rst] at hw
    obtain rfl : len = 1 := by simpa using hok
    split at hw
    next => exact lv_dup2_11 hx hb hd rfl rfl (hk _ _ _ hw H locs a hl hP hD hS)
    next => exact hw.elim
  | pop =>
    dsimp only [rok2] at hok
    dsimp only [rst] at hw
    obtain rfl : len = 1 := by simpa using hok
    split at hw
    next => exact lv_pop hx hb hd rfl (hk _ _ _ hw H locs a hl hP hD hS)
    next => exact hw.elim
  | ifCond cn o =>
    dsimp only [rok2] at hok
    dsimp only [rst] at hw
    simp only [Bool.and_eq_true, beq_iff_eq, decide_eq_true_eq] at hok
    obtain ⟨rfl, ht⟩ := hok
    split at hw
    next v r =>
      obtain ⟨h1, h2⟩ := hw
      cases cn with
      | eq => exact lv_if_eq hx hb hd ht (fun q => hK _ _ _ _ (h1 q) H locs a hl hP hD hS) (fun q => hk _ _ _ (h2 q) H locs a hl hP hD hS)
      | ne => exact lv_if_ne hx hb hd ht (fun q => hK _ _ _ _ (h1 q) H locs a hl hP hD hS) (fun q => hk _ _ _ (h2 q) H locs a hl hP hD hS)
      | lt => exact lv_if_lt hx hb hd ht (fun q => hK _ _ _ _ (h1 q) H locs a hl hP hD hS) (fun q => hk _ _ _ (h2 q) H locs a hl hP hD hS)
      | ge => exact lv_if_ge hx hb hd ht (fun q => hK _ _ _ _ (h1 q) H locs a hl hP hD hS) (fun q => hk _ _ _ (h2 q) H locs a hl hP hD hS)
      | gt => exact lv_if_gt hx hb hd ht (fun q => hK _ _ _ _ (h1 q) H locs a hl hP hD hS) (fun q => hk _ _ _ (h2 q) H locs a hl hP hD hS)
      | le => exact lv_if_le hx hb hd ht (fun q => hK _ _ _ _ (h1 q) H locs a hl hP hD hS) (fun q => hk _ _ _ (h2 q) H locs a hl hP hD hS)
    next => exact hw.elim
  | if_icmp cn o =>
    dsimp only [rok2] at hok
    dsimp only [rst] at hw
    simp only [Bool.and_eq_true, beq_iff_eq, decide_eq_true_eq] at hok
    obtain ⟨rfl, ht⟩ := hok
    split at hw
    next v r =>
      obtain ⟨h1, h2⟩ := hw
      cases cn with
      | eq => exact lv_icmp_eq hx hb hd ht (fun q => hK _ _ _ _ (h1 q) H locs a hl hP hD hS) (fun q => hk _ _ _ (h2 q) H locs a hl hP hD hS)
      | ne => exact lv_icmp_ne hx hb hd ht (fun q => hK _ _ _ _ (h1 q) H locs a hl hP hD hS) (fun q => hk _ _ _ (h2 q) H locs a hl hP hD hS)
      | lt => exact lv_icmp_lt hx hb hd ht (fun q => hK _ _ _ _ (h1 q) H locs a hl hP hD hS) (fun q => hk _ _ _ (h2 q) H locs a hl hP hD hS)
      | ge => exact lv_icmp_ge hx hb hd ht (fun q => hK _ _ _ _ (h1 q) H locs a hl hP hD hS) (fun q => hk _ _ _ (h2 q) H locs a hl hP hD hS)
      | gt => exact lv_icmp_gt hx hb hd ht (fun q => hK _ _ _ _ (h1 q) H locs a hl hP hD hS) (fun q => hk _ _ _ (h2 q) H locs a hl hP hD hS)
      | le => exact lv_icmp_le hx hb hd ht (fun q => hK _ _ _ _ (h1 q) H locs a hl hP hD hS) (fun q => hk _ _ _ (h2 q) H locs a hl hP hD hS)
    next => exact hw.elim
  | goto o =>
    dsimp only [rok2] at hok
    dsimp only [rst] at hw
    simp only [Bool.and_eq_true, beq_iff_eq, decide_eq_true_eq] at hok
    obtain ⟨rfl, ht⟩ := hok
    exact lv_goto hx hb hd ht (hK _ _ _ _ hw H locs a hl hP hD hS)
  | tableswitch d lo hi os =>
    dsimp only [rok2] at hok
    dsimp only [rst] at hw
    simp only [Bool.and_eq_true, decide_eq_true_eq, List.all_eq_true, List.mem_range] at hok
    obtain ⟨⟨⟨ht, hh⟩, hz⟩, ha⟩ := hok
    split at hw
    next v r =>
      obtain ⟨w1, w2⟩ := rsw_tab (lo := lo) hw (fun j q hq => by
        have hj : j < os.size := by rw [← hz]; exact (List.getElem?_eq_some_iff.mp hq).1
        have h1 := ha j hj
        rw [hq] at h1
        cases ho : os[j]? with
        | none => rw [ho] at h1; cases h1
        | some o => rw [ho] at h1; simp at h1; exact h1.1)
      by_cases hin : v.toInt < lo ∨ hi < v.toInt
      · exact lv_tableOut hx hb hd hin ht (hK _ _ _ _ (w2 (by omega)) H locs a hl hP hD hS)
      · have hj : (v.toInt - lo).toNat < cs.length := by omega
        have h1 := ha _ (by rw [← hz]; exact hj)
        have hq := List.getElem?_eq_getElem hj
        rw [hq] at h1
        cases ho : os[(v.toInt - lo).toNat]? with
        | none => rw [ho] at h1; cases h1
        | some o =>
          rw [ho] at h1
          simp at h1
          exact lv_tableIn hx hb hd (by omega) (by omega) ho h1.2 (hK _ _ _ _ (w1 _ _ hq (by omega)) H locs a hl hP hD hS)
    next => exact hw.elim
  | lookupswitch d ps =>
    dsimp only [rok2] at hok
    dsimp only [rst] at hw
    simp only [Bool.and_eq_true, decide_eq_true_eq] at hok
    obtain ⟨⟨ht, hp⟩, hm⟩ := hok
    split at hw
    next v r =>
      obtain ⟨t, h1, h2⟩ := rsw_look hw ht hm
      exact lv_lookup hx hb hd hp rfl h1 (hK _ _ _ _ h2 H locs a hl hP hD hS)
    next => exact hw.elim
  | ireturn =>
    dsimp only [rok2] at hok
    dsimp only [rst] at hw
    simp only [Bool.and_eq_true, Bool.or_eq_true, beq_iff_eq, decide_eq_true_eq] at hok
    obtain ⟨rfl, hok⟩ := hok
    split at hw
    next v =>
      obtain ⟨h1, h2⟩ := hw
      have hz : ∀ t : State, t.heap = H → s.WarmedH t.vm → rQc D h ad cA σ0 s.heap.size Z args s (.returned (some (.int v))) t := fun t ht hW => ⟨⟨some (.int v), σ, rfl, h2, by rw [ht]; exact hP, va_K.moved hW.alike hKt, hD⟩, hS.F ht⟩
      rcases hok with ⟨hr1, rfl⟩ | ⟨hr1, rfl⟩
      · exact W.iret hx hb (hr.trans hr1) hz hS.2.2 hd hlocks
      · refine W.zret (ty := .boolean) hx hb (hr.trans hr1) ?_ hz hS.2.2 hd hlocks
        have h1 : v = 0 ∨ v = 1 := h1
        rcases h1 with rfl | rfl <;> rfl
    next => exact hw.elim
  | lreturn =>
    dsimp only [rok2] at hok
    dsimp only [rst] at hw
    simp only [Bool.and_eq_true, beq_iff_eq, decide_eq_true_eq] at hok
    obtain ⟨rfl, hr1⟩ := hok
    split at hw
    next v => exact W.lret hx hb (hr.trans hr1) (fun t ht hW => ⟨⟨some (.long v), σ, rfl, hw, by rw [ht]; exact hP, va_K.moved hW.alike hKt, hD⟩, hS.F ht⟩) hS.2.2 hd hlocks
    next => exact hw.elim
  | return_ =>
    dsimp only [rok2] at hok
    dsimp only [rst] at hw
    simp only [Bool.and_eq_true, beq_iff_eq, decide_eq_true_eq] at hok
    obtain ⟨rfl, hr1⟩ := hok
    split at hw
    next => exact W.vret hx hb (hr.trans hr1) (fun t ht hW => ⟨⟨none, σ, rfl, hw, by rw [ht]; exact hP, va_K.moved hW.alike hKt, hD⟩, hS.F ht⟩) hS.2.2 hd hlocks
    next => exact hw.elim
  | getfield j =>
    dsimp only [rok2] at hok
    dsimp only [rst] at hw
    simp only [Bool.and_eq_true, beq_iff_eq, decide_eq_true_eq] at hok
    obtain ⟨⟨⟨rfl, hf⟩, hkd⟩, h150⟩ := hok
    split at hw
    next n r =>
      obtain ⟨rfl, hw⟩ := hw
      refine va_get (D := D) (ci := 13) (v := fv ad σ q2) (C := RX12) (T := TX12) (N := 150) (ref := "PlainJavaModel") hx hb hts (fun w hw => hG w (wG_T hw)) hown hKt hP 0 RW_obj rfl q2 h150 (hts _ (hG _ (wG_F hf))) (fun z hz => by rw [own_ok q2 h150] at hz; exact hz) (fR_at h150) hd ?_
      subst hkd
      rw [Int.toNat_natCast] at hw
      split at hw
      next hq =>
        have hq : kd q2 = 0 := Nat.eq_of_beq_eq_true hq
        have e1 : fv ad σ q2 = .int (gI σ q2) := by unfold fv; rw [hq]; rfl
        rw [e1]
        exact hk _ _ _ hw H locs a hl hP hD hS
      next g0 =>
        split at hw
        next hq =>
          have hq : kd q2 = 1 := Nat.eq_of_beq_eq_true hq
          have e1 : fv ad σ q2 = .int (gI σ q2) := by unfold fv; rw [hq]; rfl
          rw [e1]
          exact hk _ _ _ hw H locs a hl hP hD hS
        next g1 =>
          split at hw
          next hq =>
            have hq : kd q2 = 2 := Nat.eq_of_beq_eq_true hq
            have e1 : fv ad σ q2 = .long (gL σ q2) := by unfold fv; rw [hq]; rfl
            rw [e1]
            exact hk _ _ _ hw H locs a hl hP hD hS
          next g2 =>
            have e1 : fv ad σ q2 = .ref (ad q2) := by
              unfold fv
              split
              next hq => rw [hq] at g0; cases g0
              next hq => rw [hq] at g1; cases g1
              next hq => rw [hq] at g2; cases g2
              next => rfl
            rw [e1]
            have h9 := hk _ _ _ hw H locs a hl hP hD hS
            rw [List.map_cons, rcv_lt h150] at h9
            exact h9
    next => exact hw.elim
  | putfield j =>
    dsimp only [rok2] at hok
    dsimp only [rst] at hw
    simp only [Bool.and_eq_true, beq_iff_eq, decide_eq_true_eq] at hok
    obtain ⟨⟨⟨rfl, hf⟩, hkd⟩, h150⟩ := hok
    subst hkd
    rw [Int.toNat_natCast] at hw
    split at hw
    next v n r =>
      obtain ⟨rfl, hw⟩ := hw
      split at hw
      next hq =>
        have hq : kd q2 = 0 := Nat.eq_of_beq_eq_true hq
        refine va_put (D := D) (ci := 13) (v := .int v) (ty := .int) (C := RX12) (T := TX12) (N := 150) (ref := "PlainJavaModel") hx hb hts (fun w hw => hG w (wG_T hw)) tyX12 tyX12_ok nmX12 hown hKt hP hD hS 0 RW_obj rfl q2 h150 (hts _ (hG _ (wG_F hf))) (fun z hz => by rw [own_ok q2 h150] at hz; exact hz) (fin_ok q2 h150 (by omega)) (by rw [tyX12_ok q2 h150, ty_ok0 q2 h150 hq]) rfl rfl (by rw [fR_len]; exact h150) hd (fun H2 lo2 hP2 hD2 hS2 => ?_)
        rw [RW_setI (Or.inl hq)] at hP2 hD2
        exact hk _ _ _ hw H2 lo2 a hl hP2 hD2 hS2
      next =>
        split at hw
        next hq =>
          have hq : kd q2 = 1 := Nat.eq_of_beq_eq_true hq
          obtain ⟨hv, hw⟩ := hw
          refine va_put (D := D) (ci := 13) (v := .int v) (ty := .boolean) (C := RX12) (T := TX12) (N := 150) (ref := "PlainJavaModel") hx hb hts (fun w hw => hG w (wG_T hw)) tyX12 tyX12_ok nmX12 hown hKt hP hD hS 0 RW_obj rfl q2 h150 (hts _ (hG _ (wG_F hf))) (fun z hz => by rw [own_ok q2 h150] at hz; exact hz) (fin_ok q2 h150 (by omega)) (by rw [tyX12_ok q2 h150, ty_ok1 q2 h150 hq]) (by rcases hv with rfl | rfl <;> rfl) (by rcases hv with rfl | rfl <;> rfl) (by rw [fR_len]; exact h150) hd (fun H2 lo2 hP2 hD2 hS2 => ?_)
          rw [RW_setI (Or.inr hq)] at hP2 hD2
          exact hk _ _ _ hw H2 lo2 a hl hP2 hD2 hS2
        next => exact hw.elim
    next v n r =>
      obtain ⟨rfl, hw⟩ := hw
      split at hw
      next hq =>
        have hq : kd q2 = 2 := Nat.eq_of_beq_eq_true hq
        refine va_put (D := D) (ci := 13) (v := .long v) (ty := .long) (C := RX12) (T := TX12) (N := 150) (ref := "PlainJavaModel") hx hb hts (fun w hw => hG w (wG_T hw)) tyX12 tyX12_ok nmX12 hown hKt hP hD hS 0 RW_obj rfl q2 h150 (hts _ (hG _ (wG_F hf))) (fun z hz => by rw [own_ok q2 h150] at hz; exact hz) (fin_ok q2 h150 (by omega)) (by rw [tyX12_ok q2 h150, ty_ok2 q2 h150 hq]) rfl rfl (by rw [fR_len]; exact h150) hd (fun H2 lo2 hP2 hD2 hS2 => ?_)
        rw [RW_setL hq] at hP2 hD2
        exact hk _ _ _ hw H2 lo2 a hl hP2 hD2 hS2
      next => exact hw.elim
    next => exact hw.elim
  | iaload =>
    dsimp only [rok2] at hok
    dsimp only [rst] at hw
    obtain rfl : len = 1 := by simpa using hok
    split at hw
    next j n r =>
      obtain ⟨hkd, hin, hw⟩ := hw
      have h9 := va_iald (rest := r.map (rcv h ad)) hx hb hKt hP (ap n + 1) (ap n) (RW_ai (Or.inl hkd)) (RT_3 hkd) hin hd (hk _ _ _ hw H locs a hl hP hD hS)
      rw [List.map_cons, List.map_cons, rcv_lt (kd_lt hkd (by decide))]
      exact h9
    next => exact hw.elim
  | baload =>
    dsimp only [rok2] at hok
    dsimp only [rst] at hw
    obtain rfl : len = 1 := by simpa using hok
    split at hw
    next j n r =>
      obtain ⟨hkd, hin, hw⟩ := hw
      have h9 := va_zald (rest := r.map (rcv h ad)) hx hb hKt hP (ap n + 1) (ap n) (RW_ai (Or.inr hkd)) (RT_4 hkd) hin hd (hk _ _ _ hw H locs a hl hP hD hS)
      rw [List.map_cons, List.map_cons, rcv_lt (kd_lt hkd (by decide))]
      exact h9
    next => exact hw.elim
  | laload =>
    dsimp only [rok2] at hok
    dsimp only [rst] at hw
    obtain rfl : len = 1 := by simpa using hok
    split at hw
    next j n r =>
      obtain ⟨hkd, hin, hw⟩ := hw
      have h9 := va_lald (rest := r.map (rcv h ad)) hx hb hKt hP (ap n + 1) (ap n) (RW_al hkd) (RT_5 hkd) hin hd (hk _ _ _ hw H locs a hl hP hD hS)
      rw [List.map_cons, List.map_cons, rcv_lt (kd_lt hkd (by decide))]
      exact h9
    next => exact hw.elim
  | iastore =>
    dsimp only [rok2] at hok
    dsimp only [rst] at hw
    obtain rfl : len = 1 := by simpa using hok
    split at hw
    next v j n r =>
      obtain ⟨hkd, hin, hw⟩ := hw
      rw [List.map_cons, List.map_cons, List.map_cons, rcv_lt (kd_lt hkd (by decide))]
      refine va_iast hx hb hKt hP hD hS (ap n + 1) (ap n) (RW_ai (Or.inl hkd)) (RT_3 hkd) hin hd (fun H2 lo2 hP2 hD2 hS2 => ?_)
      rw [RW_setA (ap_ok n (kd_lt hkd (by decide)) (Or.inl hkd)) (Or.inl hkd)] at hP2 hD2
      exact hk _ _ _ hw H2 lo2 a hl hP2 hD2 hS2
    next => exact hw.elim
  | bastore =>
    dsimp only [rok2] at hok
    dsimp only [rst] at hw
    obtain rfl : len = 1 := by simpa using hok
    split at hw
    next v j n r =>
      obtain ⟨hkd, hin, hv, hw⟩ := hw
      rw [List.map_cons, List.map_cons, List.map_cons, rcv_lt (kd_lt hkd (by decide))]
      refine va_zast hx hb hKt hP hD hS (ap n + 1) (ap n) (RW_ai (Or.inr hkd)) (RT_4 hkd) hin hd (fun H2 lo2 hP2 hD2 hS2 => ?_)
      rw [nar_b hv] at hP2 hD2
      rw [RW_setA (ap_ok n (kd_lt hkd (by decide)) (Or.inr (Or.inl hkd))) (Or.inr hkd)] at hP2 hD2
      exact hk _ _ _ hw H2 lo2 a hl hP2 hD2 hS2
    next => exact hw.elim
  | lastore =>
    dsimp only [rok2] at hok
    dsimp only [rst] at hw
    obtain rfl : len = 1 := by simpa using hok
    split at hw
    next v j n r =>
      obtain ⟨hkd, hin, hw⟩ := hw
      rw [List.map_cons, List.map_cons, List.map_cons, rcv_lt (kd_lt hkd (by decide))]
      refine va_last hx hb hKt hP hD hS (ap n + 1) (ap n) (RW_al hkd) (RT_5 hkd) hin hd (fun H2 lo2 hP2 hD2 hS2 => ?_)
      rw [RW_setM (ap_ok n (kd_lt hkd (by decide)) (Or.inr (Or.inr hkd))) hkd] at hP2 hD2
      exact hk _ _ _ hw H2 lo2 a hl hP2 hD2 hS2
    next => exact hw.elim
  | invokevirtual j =>
    dsimp only [rok2] at hok
    dsimp only [rst] at hw
    simp only [Bool.and_eq_true, beq_iff_eq, decide_eq_true_eq] at hok
    obtain ⟨⟨rfl, hm⟩, hrow⟩ := hok
    split at hw
    next P Q hc =>
      split at hw
      next n r hdr =>
        obtain ⟨rfl, hcs, hPre, hw⟩ := hw
        obtain ⟨lv, hlv, row, hr1, hM⟩ := hct _ (rct_mem hc)
        dsimp only at hr1 hM
        rw [hr1] at hrow
        have hn : (row.2.2.2.2 : Int) = q1 := of_decide_eq_true hrow
        have hn2 : q1.toNat = row.2.2.2.2 := by omega
        obtain ⟨hc1, hc2, hc3⟩ := mtab_ok q2 (List.getElem?_eq_some_iff.mp hr1).1 row hr1
        generalize hAs : (st.take q1.toNat).reverse = As at hPre hw
        have hst : st = As.reverse ++ .ref 1000 :: r := by
          rw [← hAs, List.reverse_reverse, ← hdr, List.take_append_drop]
        have hlen : As.length = row.2.2.2.2 := by
          rw [← hAs, List.length_reverse, List.length_take]
          have h1 : (st.drop q1.toNat).length = r.length + 1 := by rw [hdr]; rfl
          rw [List.length_drop] at h1
          omega
        have hF := va_freeAll hD hS (fun q hq => Or.inr hq)
        have hyn : yn q2 = row.1 := by unfold yn; rw [hr1]
        have hgood : GoodIn Ts (wsV RX12 j RX12 row.1 (wC row :: wG)) := by
          apply goodIn_sub
          · intro w hw
            apply hG
            unfold wsV at hw
            simp only [List.cons_append, List.nil_append, List.mem_cons] at hw
            rcases hw with rfl | rfl | rfl | rfl | rfl | hw
            · have := wG_M hm
              unfold wM at this
              rw [hyn] at this
              exact this
            · exact wG_I hr1
            · exact wG_S hr1
            · exact List.mem_cons_self
            · exact wG_C hr1
            · exact hw
          · unfold wsV
            simp only [List.cons_append, List.nil_append, List.all_cons]
            rw [wG_good]
            rfl
        have hstk : st.map (rcv h ad) = (As.map (rcv h ad)).reverse ++ .ref h :: r.map (rcv h ad) := by
          rw [hst, List.map_append, List.map_reverse, List.map_cons]
          rfl
        refine r_call (va_runV (As := As.map (rcv h ad)) (rest := r.map (rcv h ad)) ⟨hx, hb, hml, hown, hts⟩ (hM D h ad cA σ H.size As hPre) (cwV row.2.2.2.2 hts hgood rfl rfl rfl ⟨hc1, by rw [hc1]; decide, by rw [hc1]; decide, hc2⟩ ⟨hlv, by show 8 + (row.2.2.1 + 11) + 100 * lv ≤ 100 * lev; omega⟩)
          ⟨fun a U g mk q => by obtain ⟨q0, q1, qP, qK, qD⟩ := q; exact ⟨q0, q1, qP, va_K.moved (u := U) (U := U.calling g mk a) (Vm.Alike.refl U.vm) qK, qD⟩, va_recv hKt hP (ci := 13) (q0 := 0) rfl RW_obj, fun U hU hW => ⟨rfl, by rw [hU], by rw [hU]; exact hP, va_K.moved hW.alike hKt, hD.weaken (fun _ _ _ _ => trivial)⟩⟩
          rfl (by rw [List.length_map]; exact hlen) hl.1 hstk (lv_room (by rw [rcs_cat]; exact hcs)) hd ⟨Nat.le_refl _, Nat.le_refl _⟩) hS (fun q _ hq => hF q hq) hF (fun w τ t H2 lo2 ht hvm hq hB hS2 => ?_)
        obtain ⟨bP, -, bD⟩ := hB
        rw [ht] at bP
        have h9 := hk _ _ _ (hw w τ hq) H2 lo2 a hl bP (bD.weaken (fun _ q _ hq => hF q.1 hq)) hS2
        have e9 : (w.toList ++ r).map (rcv h ad) = (w.map (rcv h ad)).toList ++ r.map (rcv h ad) := by
          cases w <;> rfl
        rw [e9] at h9
        exact h9
      next => exact hw.elim
    next => exact hw.elim
  | _ => exact hw.elim
theorem rwp_ok {lev nL : Nat} {cc : ByteArray} {ret : Option FieldType} {D : va_G} {h : Nat} {ad : Nat → Nat} {cA : Nat → ClassId} {σ0 : RS} {Z : Option Value → RS → Prop} {Ts : List Jvm.Cond} {ct : RC} {K : RK}
    (hE : rE p s m args meth c cc nL ret D cA Ts) (hct : ∀ q ∈ ct, ∃ lv, lv < lev ∧ RMet l lv q.1 q.2.1 q.2.2)
    (hK : ∀ pc ls st σ, K pc ls st σ → rG p l e s m args below meth c lev nL D h ad cA σ0 Z pc ls st σ)
    (is : List RI) : ∀ (pc : Nat), rokB cc nL ret is pc = true → ∀ (ls : RL) (st : List Value) (σ : RS), rwp ct K Z is pc ls st σ → rG p l e s m args below meth c lev nL D h ad cA σ0 Z pc ls st σ := by
  induction is with
  | nil => intro pc _ ls st σ hw; exact hK _ _ _ _ hw
  | cons x is ih =>
    intro pc hok ls st σ hw
    unfold rokB at hok
    rw [Bool.and_eq_true] at hok
    exact rst_ok hE hct hK hok.1 (fun ls st σ hk => ih _ hok.2 ls st σ hk) hw
/-- the blocks of a method -/
abbrev RB : Type := List (Nat × List RI)
def rokM (cc : ByteArray) (nL : Nat) (ret : Option FieldType) (bs : RB) : Bool := bs.all (fun b => rokB cc nL ret b.2 b.1)
/-- a method's contract out of its blocks: G is whatever holds at a block's beginning as soon as the block's own predicate does -/
theorem RMet.of {lev μ : Nat} {P : RP} {Q : RQ} {r : RM} (bs : RB) (ct : RC) (hr : mtab[μ]? = some r) (hok : rokM r.2.1 r.2.2.1 r.2.2.2.1 bs = true) (hct : ∀ q ∈ ct, ∃ lv, lv < lev ∧ RMet l lv q.1 q.2.1 q.2.2)
    (hlen : ∀ (As : List Value) (σ : RS), P As σ → (lg_sl (.ref 1000 :: As)).length ≤ r.2.2.1)
    (body : ∀ (As : List Value) (σ : RS), P As σ → ∀ G : RK, (∀ b ∈ bs, ∀ (ls : RL) (st : List Value) (τ : RS), rwp ct G (Q As σ) b.2 b.1 ls st τ → G b.1 ls st τ) → (∀ (pc : Nat) (ls ls' : RL) (st : List Value) (τ : RS), (∀ q ∈ ls, q ∈ ls') → G pc ls st τ → G pc ls' st τ) → G 0 (lv_args 0 (.ref 1000 :: As)) [] σ) : RMet l lev μ P Q := by
  refine ⟨r, hr, fun D h ad cA σ sz As hP => ?_⟩
  obtain ⟨hc1, -, -⟩ := mtab_ok μ (List.getElem?_eq_some_iff.mp hr).1 r hr
  refine Met.ofW (cc := r.2.1) (maxL := r.2.2.1) (ret := r.2.2.2.1) (by rw [hc1]; decide) rfl ?_
  intro p e s m args below meth c s₁ B hml hv
  obtain ⟨rfl, hsz, hPw, hKt, hD0⟩ := hv
  subst hsz
  have hts := atoms_spec (ws := wC r :: wG) B.pre
  have hown : s.vm.findClass RX12 = some m.cls := by rw [← hc1]; exact findClass_of_methodNamed B.named
  have hE : rE p s m ((Value.ref h :: As.map (rcv h ad)).toArray) meth c r.2.1 r.2.2.1 r.2.2.2.1 D cA (wC r :: wG) := ⟨B.exec, B.bytes, hml, B.returns, B.notSynchronized, hown, hts, fun w hw => List.mem_cons_of_mem _ hw, hKt⟩
  have hD := hD0.self (sz := s.heap.size)
  have hlen' : (lg_sl (Value.ref h :: As.map (rcv h ad))).length ≤ r.2.2.1 := by
    rw [show (lg_sl (Value.ref h :: As.map (rcv h ad))).length = (lg_sl (.ref 1000 :: As)).length from rlg_len]
    exact hlen As σ hP
  have hl := lv_entry (Value.ref h :: As.map (rcv h ad)) (n := r.2.2.1) hlen'
  rw [lg_entry_eq]
  have hb := body As σ hP (rG p l e s m ((Value.ref h :: As.map (rcv h ad)).toArray) below meth c lev r.2.2.1 D h ad cA σ (Q As σ))
    (fun b hb ls st τ hw => rwp_ok hE hct (fun _ _ _ _ q => q) b.2 b.1 (List.all_eq_true.mp hok b hb) ls st τ hw)
    (fun pc ls ls' st τ hs hg H locs a hl hP hD hS => hg H locs a ⟨hl.1, hl.2.1, fun q hq => by
      obtain ⟨z, hz, rfl⟩ := List.mem_map.mp hq
      exact hl.2.2 _ (List.mem_map.mpr ⟨z, hs z hz, rfl⟩)⟩ hP hD hS)
  have h9 := hb s.heap [] _ (by rw [rlg_args]; exact hl) hPw hD va_S.rf
  exact h9
end RSO

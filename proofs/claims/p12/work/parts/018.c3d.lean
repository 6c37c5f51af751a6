def fiC : List Bool := [false, false, false, false, false, false, false, false, false, false, false, false, false, false, false, false, false, false, false, false, false, false, false, false, false, false, false, false, false, false, true, true, true, true, false, false, false, false, false, false, false, false, false, false, false, false, false, false, false, false, false, false, false, false, false, false, false, false, false, false, true, true, true, true, false, false, false, false, false, false, false, false, false, false, false, false, false, false, false, false, false, false, false, false, false, false, false, false, false, false, false, false, false, true, false, false, false, false, false, false, false, false, false, false, false, false, false, false, false, false, false, false, false, false, false, false, false, false, false, false, true, false, false, false, false, false, false, false, false, false, false, false, false, false, false, false, false, false, false, false, false, false, false, false, false, false, false, false, false, false, true, true, true, true, true, true, true, true, true, false, false, false, false, false, false, false, false, false, false, false, false, false, false, false, false, false, false, false, false, false, true, true, true, true, true, false, false, false, false, false, false, false, false, false, false, false, false, false, false, false, false, false, false, false, false, false, false, false, false, false, true, true, true, true, true, true, true, false, false, false, false, false, false, false, false, false, false, false, false, false, false, false, false, false, false, false, false, false, false, false, false, false, false, false, false, false, false, false, false, false, false, false, false, false, false, false, false, false, false, false, false, false, false, false, false, false, false, false, false, false, true, true, true, true, true, false, false, false, false, false, false, false, false, false, false, false, false, false, false, false, false, false, false, false, false, false, false, false, false, false, true, true, true, true, true, false, true, false, false, false, false, false, false, false, false, false, false, false, false, false, false, false, false, false, false, false, false, false, false, false, true, true, true, true, false, false, false, false, false, false, false, false, false, false, false, false, false, false, false, false, false, false, false, false, false, false, false, false, false, false, true, true, true, false, false, true, true, true, true, false, false, false, false, false, false, false, false, false, false, false, false, false, false, false, false, false, false, false, false, false]
/-- the tables say of an instruction what was found out about it -/
def cok2C (own nL : Nat) (ret : Option FieldType) (ini : Bool) (x : RI) (pc : Nat) : Bool :=
  match x.1 with
  | .iconst _ => x.2.1 == 1
  | .bipush n => x.2.1 == 2 && decide ((Int8.ofInt n).toInt32 = Int32.ofInt n)
  | .sipush n => x.2.1 == 3 && decide ((Int16.ofInt n).toInt32 = Int32.ofInt n)
  | .lconst _ => x.2.1 == 1
  | .ldc2_w i => x.2.1 == 3 && decide ((own, i, x.2.2.1) ∈ llC)
  | .ldc i => x.2.1 == 2 && (match Nat.beq x.2.2.2.1 0 with
    | true => decide ((own, i, x.2.2.1) ∈ ilC)
    | false => (decide (1000003 ≤ x.2.2.2.1) && decide ((own, i, x.2.2.2.1 - 1000003) ∈ rlC)) || (decide (x.2.2.2.1 = 1000011) && decide ((own, i, 22) ∈ clC)))
  | .iload_n n => x.2.1 == 1 && decide ((n : Nat) = x.2.2.2.1)
  | .iload _ => x.2.1 == 2
  | .lload_n n => x.2.1 == 1 && decide ((n : Nat) = x.2.2.2.1)
  | .lload _ => x.2.1 == 2
  | .aload_n n => x.2.1 == 1 && decide ((n : Nat) = x.2.2.2.1)
  | .aload _ => x.2.1 == 2
  | .istore_n n => x.2.1 == 1 && decide ((n : Nat) < nL) && decide ((n : Nat) = x.2.2.2.1)
  | .istore n => x.2.1 == 2 && decide (n < nL)
  | .lstore_n n => x.2.1 == 1 && decide ((n : Nat) + 1 < nL) && decide ((n : Nat) = x.2.2.2.1)
  | .lstore n => x.2.1 == 2 && decide (n + 1 < nL)
  | .astore_n n => x.2.1 == 1 && decide ((n : Nat) < nL) && decide ((n : Nat) = x.2.2.2.1)
  | .astore n => x.2.1 == 2 && decide (n < nL)
  | .iinc n _ => x.2.1 == 3 && decide (n < nL)
  | .ifCond _ o => x.2.1 == 3 && decide ((pc : Int) + o = (x.2.2.2.1 : Int))
  | .if_icmp _ o => x.2.1 == 3 && decide ((pc : Int) + o = (x.2.2.2.1 : Int))
  | .if_acmp _ o => x.2.1 == 3 && decide ((pc : Int) + o = (x.2.2.2.1 : Int))
  | .ifnull o => x.2.1 == 3 && decide ((pc : Int) + o = (x.2.2.2.1 : Int))
  | .ifnonnull o => x.2.1 == 3 && decide ((pc : Int) + o = (x.2.2.2.1 : Int))
  | .goto o => x.2.1 == 3 && decide ((pc : Int) + o = (x.2.2.2.1 : Int))
  | .tableswitch d lo hi os => decide ((pc : Int) + d = (x.2.2.2.1 : Int)) && decide (hi + 1 = lo + x.2.2.2.2.length) && decide (x.2.2.2.2.length = os.size) && (List.range os.size).all (fun j => match x.2.2.2.2[j]?, os[j]? with
    | some q, some o => decide (q.1 = lo + j) && decide ((pc : Int) + o = (q.2 : Int))
    | _, _ => false)
  | .lookupswitch d ps => decide ((pc : Int) + d = (x.2.2.2.1 : Int)) && (ps.toList.zip (ps.toList.drop 1)).all (fun (a, next) => a.1 < next.1) && decide (x.2.2.2.2.map (fun q => (q.1, (q.2 : Int))) = ps.toList.map (fun q => (q.1, (pc : Int) + q.2)))
  | .ireturn => x.2.1 == 1 && ((decide (ret = some .int) && decide (x.2.2.1 = 1)) || (decide (ret = some .boolean) && decide (x.2.2.1 = 2)))
  | .lreturn => x.2.1 == 1 && decide (ret = some .long)
  | .areturn => x.2.1 == 1 && (match ret with
    | some (.object _) => true
    | some (.array _) => true
    | _ => false)
  | .return_ => x.2.1 == 1 && decide (ret = none)
  | .getfield i => x.2.1 == 3 && decide ((own, i, x.2.2.2.1) ∈ flC) && decide (x.2.2.2.1 / 30 < 13) && decide (x.2.2.2.1 % 30 < nfC (x.2.2.2.1 / 30)) && decide (own = 20 → x.2.2.2.1 = 0)
  | .getstatic i => x.2.1 == 3 && decide ((own, i, x.2.2.2.1) ∈ zlC)
  | .putfield i => x.2.1 == 3 && decide ((own, i, x.2.2.2.1) ∈ flC) && decide (x.2.2.2.1 / 30 < 13) && decide (x.2.2.2.1 % 30 < nfC (x.2.2.2.1 / 30)) && decide (own = 20 → x.2.2.2.1 = 0) && (!(fiC.getD x.2.2.2.1 true) || (ini && decide (own = x.2.2.2.1 / 30)))
  | .newarray t => x.2.1 == 2 && ((decide (t = .int) && decide (x.2.2.2.1 = 100)) || (decide (t = .byte) && decide (x.2.2.2.1 = 101)) || (decide (t = .long) && decide (x.2.2.2.1 = 102)))
  | .anewarray i => x.2.1 == 3 && ((decide ((own, i, 2) ∈ clC) && decide (x.2.2.2.1 = 104)) || (decide ((own, i, 9) ∈ clC) && decide (x.2.2.2.1 = 105)) || (decide ((own, i, 15) ∈ clC) && decide (x.2.2.2.1 = 103)))
  | .new i => x.2.1 == 3 && decide ((own, i, x.2.2.2.1) ∈ clC) && decide (x.2.2.2.1 < 13)
  | .checkcast i => x.2.1 == 3 && decide ((own, i, x.2.2.2.1) ∈ clC) && decide (x.2.2.2.1 < 13)
  | .invokevirtual i => x.2.1 == 3 && (match Nat.beq x.2.2.2.1 9998 with
    | true => decide (own = 16) && decide (i = 86)
    | false => decide ((own, i, x.2.2.2.1) ∈ mlC) && (match mtC[x.2.2.2.1]? with
      | some r => decide ((r.2.2.2.2.1 : Int) = x.2.2.1) && decide (x.2.2.2.2.length = r.2.2.2.2.2.1) && decide (r.2.2.2.2.2.1 < 14) && !r.2.2.2.2.2.2 && decide (r.1.name ≠ "<init>")
      | none => false))
  | .invokespecial i => x.2.1 == 3 && (match Nat.beq x.2.2.2.1 9999 with
    | true => decide ((own, i) ∈ oiC)
    | false => decide ((own, i, x.2.2.2.1) ∈ mlC) && (match mtC[x.2.2.2.1]? with
      | some r => decide ((r.2.2.2.2.1 : Int) = x.2.2.1) && decide (r.1.name = "<init>") && (decide (r.2.2.2.2.2.1 < 13) || decide (r.2.2.2.2.2.1 = 20) || decide (r.2.2.2.2.2.1 = 21)) && decide (r.2.2.2.1 = none) && !r.2.2.2.2.2.2
      | none => false))
  | .invokestatic i => x.2.1 == 3 && (match Nat.ble 9990 x.2.2.2.1 with
    | true => (decide (x.2.2.2.1 = 9997) && (decide (own = 16) && decide (i = 150))) || ((decide (x.2.2.2.1 = 9996) && decide ((own, i, 240) ∈ mlC)) || (decide (x.2.2.2.1 = 9995) && decide ((own, i, 252) ∈ mlC)))
    | false => match mtC[x.2.2.2.1]? with
      | some r => decide ((r.2.2.2.2.1 : Int) = x.2.2.1) && r.2.2.2.2.2.2 && (decide ((own, i, x.2.2.2.1) ∈ mlC) || decide ((own, i, x.2.2.2.1) ∈ nlC))
      | none => false)
  | _ => x.2.1 == 1
def cokC (cc : ByteArray) (own nL : Nat) (ret : Option FieldType) (ini : Bool) (x : RI) (pc : Nat) : Bool := decide (decode cc pc = .ok (x.1, x.2.1)) && cok2C own nL ret ini x pc
def cokBC (cc : ByteArray) (own nL : Nat) (ret : Option FieldType) (ini : Bool) : List RI → Nat → Bool
  | [], _ => true
  | x :: is, pc => cokC cc own nL ret ini x pc && cokBC cc own nL ret ini is (pc + x.2.1)
theorem ctC_mem {ct : CcC} {μ : Nat} {P : CpC} {Q : CqC} (h : ctC ct μ = some (P, Q)) : (μ, P, Q) ∈ ct := by
  induction ct with
  | nil => cases h
  | cons q r ih =>
    unfold ctC at h
    cases hb : Nat.beq q.1 μ with
    | true =>
      rw [hb] at h
      have e1 : q.1 = μ := Nat.eq_of_beq_eq_true hb
      have e2 : q.2 = (P, Q) := Option.some.inj h
      rw [← e1, ← e2]
      exact List.mem_cons_self
    | false =>
      rw [hb] at h
      exact List.mem_cons_of_mem _ (ih h)
section CSO
variable {p : Program} {l : Launch} {e : Env} {s : State} {m : MethodId} {args : Array Value} {below : List Frame} {meth : Method} {c : Code}
/-- the machine at a place of a method of the class, in a state that holds σ, comes to its end -/
def gGC (p : Program) (l : Launch) (e : Env) (s : State) (m : MethodId) (args : Array Value) (below : List Frame) (meth : Method) (c : Code) (lev nL : Nat) (D : va_G) (ad : Nat → Nat) (kA : Nat → ClassId) (σ0 : CsC) (Z : Option AvC → CsC → Prop) : CkC := fun pc ls st σ =>
  ∀ (H : Heap) (locs : List Loc) (a : Array Slot), lv_has a nL (clmC ad ls) → va_P D vwCl (CwC ad kA σ) H → va_D (va_A (CwC ad kA σ0) s.heap.size) (CwC ad kA σ) → va_S (va_A (CwC ad kA σ0) s.heap.size) s.heap H locs → GrC σ0 σ →
    W p l e (rmC lev σ0) s m args below meth c H locs (cnC σ - cnC σ0) (slC σ - slC σ0) (MQ below (cQcC D ad kA σ0 s.heap.size Z) args s (cpC σ0 - cnC σ0) (spC σ0 - slC σ0) (va_A (CwC ad kA σ0) s.heap.size)) (F0 m pc a (st.map (cvC ad)))
/-- what a method's walk rests on -/
def eEC (p : Program) (s : State) (m : MethodId) (args : Array Value) (meth : Method) (c : Code) (cc : ByteArray) (own nL lev : Nat) (ret : Option FieldType) (ini : Bool) (D : va_G) (ad : Nat → Nat) (kA : Nat → ClassId) (σ0 : CsC) (Ts : List Jvm.Cond) : Prop :=
  p.tables.exec = Jvm.exec ∧ c.code = cc ∧ c.maxLocals = nL ∧ meth.sig.returnType = ret ∧ meth.locks = false ∧ s.vm.findClass (owC own) = some m.cls ∧ (∀ w ∈ Ts, w.before args s = true) ∧ (∀ w ∈ cGC, w ∈ Ts) ∧ va_K D vwCl (tyC kA) s ∧ evC ad (va_A (CwC ad kA σ0) s.heap.size) s s.heap ∧ (ini = true → meth.name = "<init>") ∧ 1 ≤ lev ∧ AdC ad σ0 s.heap.size

/-- which theorem speaks of an instruction -/
def ccsC (i : Instr) : Nat := match i with
  | .ireturn => 2
  | .lreturn => 2
  | .areturn => 2
  | .return_ => 2
  | .getfield _ => 2
  | .putfield _ => 2
  | .if_acmp _ _ => 2
  | .iaload => 3
  | .baload => 3
  | .laload => 3
  | .aaload => 3
  | .iastore => 3
  | .bastore => 3
  | .lastore => 3
  | .aastore => 3
  | .arraylength => 3
  | .newarray _ => 4
  | .anewarray _ => 4
  | .new _ => 4
  | .checkcast _ => 4
  | .invokevirtual _ => 5
  | .invokespecial _ => 5
  | .invokestatic _ => 5
  | _ => 1
set_option maxHeartbeats 8000000 in
theorem cst_ok1 {lev own nL : Nat} {cc : ByteArray} {ret : Option FieldType} {ini : Bool} {D : va_G} {ad : Nat → Nat} {kA : Nat → ClassId} {σ0 : CsC} {Z : Option AvC → CsC → Prop} {Ts : List Jvm.Cond} {ct : CcC} {K k : CkC}
    (hE : eEC p s m args meth c cc own nL lev ret ini D ad kA σ0 Ts) (hct : ∀ q ∈ ct, ∃ lv, lv < lev ∧ CMetC l lv q.1 q.2.1 q.2.2)
    (hK : ∀ pc ls st σ, K pc ls st σ → gGC p l e s m args below meth c lev nL D ad kA σ0 Z pc ls st σ)
    {x : RI} {pc : Nat} (hok : cokC cc own nL ret ini x pc = true) (hk : ∀ ls st σ, k (pc + x.2.1) ls st σ → gGC p l e s m args below meth c lev nL D ad kA σ0 Z (pc + x.2.1) ls st σ)
    {ls : ClC} {st : List AvC} {σ : CsC} (hw : cstC ct K Z x pc ls st σ k) (hsel : ccsC x.1 = 1) : gGC p l e s m args below meth c lev nL D ad kA σ0 Z pc ls st σ := by
  obtain ⟨hx, hb, hml, hr, hlocks, hown, hts, hG, hKt, hEv, hin, hlv1, hAd⟩ := hE
  intro H locs a hl hP hD hS hg
  obtain ⟨i, len, q1, q2, cs⟩ := x
  dsimp only at hk hsel
  unfold cokC at hok
  rw [Bool.and_eq_true] at hok
  obtain ⟨hd, hok⟩ := hok
  replace hd : decode cc pc = .ok (i, len) := of_decide_eq_true hd
  cases i with
  | iconst n =>
    dsimp only [cok2C] at hok
    dsimp only [cstC] at hw
    obtain rfl : len = 1 := by simpa using hok
    exact lv_iconst hx hb hd rfl (hk _ _ _ hw H locs a hl hP hD hS hg)
  | bipush n =>
    dsimp only [cok2C] at hok
    dsimp only [cstC] at hw
    simp only [Bool.and_eq_true, beq_iff_eq, decide_eq_true_eq] at hok
    obtain ⟨rfl, he⟩ := hok
    exact lv_bipush hx hb hd he (hk _ _ _ hw H locs a hl hP hD hS hg)
  | sipush n =>
    dsimp only [cok2C] at hok
    dsimp only [cstC] at hw
    simp only [Bool.and_eq_true, beq_iff_eq, decide_eq_true_eq] at hok
    obtain ⟨rfl, he⟩ := hok
    exact lv_sipush hx hb hd he (hk _ _ _ hw H locs a hl hP hD hS hg)
  | lconst n =>
    dsimp only [cok2C] at hok
    dsimp only [cstC] at hw
    obtain rfl : len = 1 := by simpa using hok
    exact lv_lconst hx hb hd rfl (hk _ _ _ hw H locs a hl hP hD hS hg)
  | getstatic j =>
    dsimp only [cok2C] at hok
    dsimp only [cstC] at hw
    simp only [Bool.and_eq_true, beq_iff_eq, decide_eq_true_eq] at hok
    obtain ⟨rfl, hz⟩ := hok
    have hlk := hts _ (hG _ (cG_y hz))
    have h9 := hk _ _ _ hw H locs a hl hP hD hS hg
    have hq : q2 = 1000000 ∨ q2 = 1000001 ∨ q2 = 1000002 := by
      have hall : ∀ q ∈ zlC, q.2.2 = 1000000 ∨ q.2.2 = 1000001 ∨ q.2.2 = 1000002 := by decide
      exact hall _ hz
    rcases hq with rfl | rfl | rfl
    · exact va_gets hx hb hEv.2.1.1 hS hown hlk (fun _ h => h) hd h9
    · exact va_gets hx hb hEv.2.2.1.1 hS hown hlk (fun _ h => h) hd h9
    · exact va_gets hx hb hEv.2.2.2.1.1 hS hown hlk (fun _ h => h) hd h9
  | aconst_null =>
    dsimp only [cok2C] at hok
    dsimp only [cstC] at hw
    obtain rfl : len = 1 := by simpa using hok
    exact lv_null hx hb hd (hk _ _ _ hw H locs a hl hP hD hS hg)
  | ldc2_w n =>
    dsimp only [cok2C] at hok
    dsimp only [cstC] at hw
    simp only [Bool.and_eq_true, beq_iff_eq, decide_eq_true_eq] at hok
    obtain ⟨rfl, hm⟩ := hok
    exact lv_ldc2 hx hb hown (hts _ (hG _ (cG_j hm))) hd (hk _ _ _ hw H locs a hl hP hD hS hg)
  | ldc n =>
    dsimp only [cok2C] at hok
    dsimp only [cstC] at hw
    rw [Bool.and_eq_true] at hok
    obtain ⟨h2, hok⟩ := hok
    obtain rfl : len = 2 := by simpa using h2
    split at hw
    next hq =>
      rw [hq] at hok
      exact lv_ldc hx hb hown (hts _ (hG _ (cG_n (of_decide_eq_true hok)))) hd (hk _ _ _ hw H locs a hl hP hD hS hg)
    next hq =>
      rw [hq] at hok
      simp only [Bool.and_eq_true, Bool.or_eq_true, decide_eq_true_eq] at hok
      have h9 := hk _ _ _ hw H locs a hl hP hD hS hg
      rcases hok with hok | ⟨rfl, hcl⟩
      · have hR := hEv.2.2.2.2.2.1 _ hok.2
        dsimp only at hR
        rw [show 1000003 + (q2 - 1000003) = q2 by omega] at hR
        exact va_ldcS hx hb hown hR hd h9
      · have hlk := hts _ (hG _ (cG_k hcl))
        unfold wkC at hlk
        dsimp only at hlk
        exact va_ldcM hx hb hown hlk hEv.2.2.2.2.2.2.2.1 hd h9
  | iload_n n =>
    dsimp only [cok2C] at hok
    dsimp only [cstC] at hw
    simp only [Bool.and_eq_true, beq_iff_eq, decide_eq_true_eq] at hok
    obtain ⟨rfl, hi⟩ := hok
    split at hw
    next v hv => exact lv_iload_n hx hb hd hi (clmC_at hl hv) (hk _ _ _ hw H locs a hl hP hD hS hg)
    next => exact hw.elim
  | lload_n n =>
    dsimp only [cok2C] at hok
    dsimp only [cstC] at hw
    simp only [Bool.and_eq_true, beq_iff_eq, decide_eq_true_eq] at hok
    obtain ⟨rfl, hi⟩ := hok
    split at hw
    next v hv => exact lv_lload_n hx hb hd hi (clmC_at hl hv) (hk _ _ _ hw H locs a hl hP hD hS hg)
    next => exact hw.elim
  | iload n =>
    dsimp only [cok2C] at hok
    dsimp only [cstC] at hw
    obtain rfl : len = 2 := by simpa using hok
    split at hw
    next v hv => exact lv_iload hx hb hd (clmC_at hl hv) (hk _ _ _ hw H locs a hl hP hD hS hg)
    next => exact hw.elim
  | lload n =>
    dsimp only [cok2C] at hok
    dsimp only [cstC] at hw
    obtain rfl : len = 2 := by simpa using hok
    split at hw
    next v hv => exact lv_lload hx hb hd (clmC_at hl hv) (hk _ _ _ hw H locs a hl hP hD hS hg)
    next => exact hw.elim
  | aload_n n =>
    dsimp only [cok2C] at hok
    dsimp only [cstC] at hw
    simp only [Bool.and_eq_true, beq_iff_eq, decide_eq_true_eq] at hok
    obtain ⟨rfl, hi⟩ := hok
    split at hw
    next v hv =>
      cases v with
      | none => exact lv_aload_nN hx hb hd hi (clmC_at hl hv) (hk _ _ _ hw H locs a hl hP hD hS hg)
      | some v => exact lv_aload_n hx hb hd hi (clmC_at hl hv) (hk _ _ _ hw H locs a hl hP hD hS hg)
    next => exact hw.elim
  | aload n =>
    dsimp only [cok2C] at hok
    dsimp only [cstC] at hw
    obtain rfl : len = 2 := by simpa using hok
    split at hw
    next v hv =>
      cases v with
      | none => exact lv_aloadN hx hb hd (clmC_at hl hv) (hk _ _ _ hw H locs a hl hP hD hS hg)
      | some v => exact lv_aload hx hb hd (clmC_at hl hv) (hk _ _ _ hw H locs a hl hP hD hS hg)
    next => exact hw.elim
  | istore_n n =>
    dsimp only [cok2C] at hok
    dsimp only [cstC] at hw
    simp only [Bool.and_eq_true, beq_iff_eq, decide_eq_true_eq] at hok
    obtain ⟨⟨rfl, hn⟩, hi⟩ := hok
    split at hw
    next v r => exact lv_istore_n hx hb hd hi hl (by omega) (clmC_s1 (v := .inl v)) (fun a' hl' => hk _ _ _ hw H locs a' hl' hP hD hS hg)
    next => exact hw.elim
  | lstore_n n =>
    dsimp only [cok2C] at hok
    dsimp only [cstC] at hw
    simp only [Bool.and_eq_true, beq_iff_eq, decide_eq_true_eq] at hok
    obtain ⟨⟨rfl, hn⟩, hi⟩ := hok
    split at hw
    next v r => exact lv_lstore_n hx hb hd hi hl (by omega) (clmC_s2 (v := .inr (.inl v))) (fun a' hl' => hk _ _ _ hw H locs a' hl' hP hD hS hg)
    next => exact hw.elim
  | istore n =>
    dsimp only [cok2C] at hok
    dsimp only [cstC] at hw
    simp only [Bool.and_eq_true, beq_iff_eq, decide_eq_true_eq] at hok
    obtain ⟨rfl, hn⟩ := hok
    split at hw
    next v r => exact lv_istore hx hb hd hl hn (clmC_s1 (v := .inl v)) (fun a' hl' => hk _ _ _ hw H locs a' hl' hP hD hS hg)
    next => exact hw.elim
  | lstore n =>
    dsimp only [cok2C] at hok
    dsimp only [cstC] at hw
    simp only [Bool.and_eq_true, beq_iff_eq, decide_eq_true_eq] at hok
    obtain ⟨rfl, hn⟩ := hok
    split at hw
    next v r => exact lv_lstore hx hb hd hl hn (clmC_s2 (v := .inr (.inl v))) (fun a' hl' => hk _ _ _ hw H locs a' hl' hP hD hS hg)
    next => exact hw.elim
  | astore_n n =>
    dsimp only [cok2C] at hok
    dsimp only [cstC] at hw
    simp only [Bool.and_eq_true, beq_iff_eq, decide_eq_true_eq] at hok
    obtain ⟨⟨rfl, hn⟩, hi⟩ := hok
    split at hw
    next v r =>
      cases v with
      | none => exact lv_astore_nN hx hb hd hi hl (by omega) (clmC_s1 (v := .inr (.inr none))) (fun a' hl' => hk _ _ _ hw H locs a' hl' hP hD hS hg)
      | some v => exact lv_astore_n hx hb hd hi hl (by omega) (clmC_s1 (v := .inr (.inr (some v)))) (fun a' hl' => hk _ _ _ hw H locs a' hl' hP hD hS hg)
    next => exact hw.elim
  | astore n =>
    dsimp only [cok2C] at hok
    dsimp only [cstC] at hw
    simp only [Bool.and_eq_true, beq_iff_eq, decide_eq_true_eq] at hok
    obtain ⟨rfl, hn⟩ := hok
    split at hw
    next v r =>
      cases v with
      | none => exact lv_astoreN hx hb hd hl hn (clmC_s1 (v := .inr (.inr none))) (fun a' hl' => hk _ _ _ hw H locs a' hl' hP hD hS hg)
      | some v => exact lv_astore hx hb hd hl hn (clmC_s1 (v := .inr (.inr (some v)))) (fun a' hl' => hk _ _ _ hw H locs a' hl' hP hD hS hg)
    next => exact hw.elim
  | iinc n dd =>
    dsimp only [cok2C] at hok
    dsimp only [cstC] at hw
    simp only [Bool.and_eq_true, beq_iff_eq, decide_eq_true_eq] at hok
    obtain ⟨rfl, hn⟩ := hok
    split at hw
    next v hv =>
      obtain ⟨j, hj⟩ := List.getElem?_of_mem (List.mem_map.mpr ⟨(n, .inl v), lkC_mem hv, rfl⟩ : (n, Value.int v) ∈ clmC ad ls)
      exact lv_iinc hx hb hd hl hj rfl hn (clmC_s1 (v := .inl (v + Int32.ofInt dd))) (fun a' hl' => hk _ _ _ hw H locs a' hl' hP hD hS hg)
    next => exact hw.elim
  | iadd =>
    dsimp only [cok2C] at hok
    dsimp only [cstC] at hw
    obtain rfl : len = 1 := by simpa using hok
    split at hw
    next => exact lv_iadd hx hb hd (hk _ _ _ hw H locs a hl hP hD hS hg)
    next => exact hw.elim
  | isub =>
    dsimp only [cok2C] at hok
    dsimp only [cstC] at hw
    obtain rfl : len = 1 := by simpa using hok
    split at hw
    next => exact lv_isub hx hb hd (hk _ _ _ hw H locs a hl hP hD hS hg)
    next => exact hw.elim
  | iand =>
    dsimp only [cok2C] at hok
    dsimp only [cstC] at hw
    obtain rfl : len = 1 := by simpa using hok
    split at hw
    next => exact lv_iand hx hb hd (hk _ _ _ hw H locs a hl hP hD hS hg)
    next => exact hw.elim
  | ior =>
    dsimp only [cok2C] at hok
    dsimp only [cstC] at hw
    obtain rfl : len = 1 := by simpa using hok
    split at hw
    next => exact lv_ior hx hb hd (hk _ _ _ hw H locs a hl hP hD hS hg)
    next => exact hw.elim
  | ishr =>
    dsimp only [cok2C] at hok
    dsimp only [cstC] at hw
    obtain rfl : len = 1 := by simpa using hok
    split at hw
    next => exact lv_ishr hx hb hd (hk _ _ _ hw H locs a hl hP hD hS hg)
    next => exact hw.elim
  | imul =>
    dsimp only [cok2C] at hok
    dsimp only [cstC] at hw
    obtain rfl : len = 1 := by simpa using hok
    split at hw
    next => exact lv_imul hx hb hd (hk _ _ _ hw H locs a hl hP hD hS hg)
    next => exact hw.elim
  | ishl =>
    dsimp only [cok2C] at hok
    dsimp only [cstC] at hw
    obtain rfl : len = 1 := by simpa using hok
    split at hw
    next => exact lv_ishl hx hb hd (hk _ _ _ hw H locs a hl hP hD hS hg)
    next => exact hw.elim
  | iushr =>
    dsimp only [cok2C] at hok
    dsimp only [cstC] at hw
    obtain rfl : len = 1 := by simpa using hok
    split at hw
    next => exact lv_iushr hx hb hd rfl (hk _ _ _ hw H locs a hl hP hD hS hg)
    next => exact hw.elim
  | irem =>
    dsimp only [cok2C] at hok
    dsimp only [cstC] at hw
    obtain rfl : len = 1 := by simpa using hok
    split at hw
    next => exact lv_irem hx hb hd hw.1 (hk _ _ _ hw.2 H locs a hl hP hD hS hg)
    next => exact hw.elim
  | ladd =>
    dsimp only [cok2C] at hok
    dsimp only [cstC] at hw
    obtain rfl : len = 1 := by simpa using hok
    split at hw
    next => exact lv_ladd hx hb hd (hk _ _ _ hw H locs a hl hP hD hS hg)
    next => exact hw.elim
  | lsub =>
    dsimp only [cok2C] at hok
    dsimp only [cstC] at hw
    obtain rfl : len = 1 := by simpa using hok
    split at hw
    next => exact lv_lsub hx hb hd (hk _ _ _ hw H locs a hl hP hD hS hg)
    next => exact hw.elim
  | lmul =>
    dsimp only [cok2C] at hok
    dsimp only [cstC] at hw
    obtain rfl : len = 1 := by simpa using hok
    split at hw
    next => exact lv_lmul hx hb hd (hk _ _ _ hw H locs a hl hP hD hS hg)
    next => exact hw.elim
  | land =>
    dsimp only [cok2C] at hok
    dsimp only [cstC] at hw
    obtain rfl : len = 1 := by simpa using hok
    split at hw
    next => exact lv_land hx hb hd (hk _ _ _ hw H locs a hl hP hD hS hg)
    next => exact hw.elim
  | lor =>
    dsimp only [cok2C] at hok
    dsimp only [cstC] at hw
    obtain rfl : len = 1 := by simpa using hok
    split at hw
    next => exact lv_lor hx hb hd (hk _ _ _ hw H locs a hl hP hD hS hg)
    next => exact hw.elim
  | lxor =>
    dsimp only [cok2C] at hok
    dsimp only [cstC] at hw
    obtain rfl : len = 1 := by simpa using hok
    split at hw
    next => exact lv_lxor hx hb hd (hk _ _ _ hw H locs a hl hP hD hS hg)
    next => exact hw.elim
  | lneg =>
    dsimp only [cok2C] at hok
    dsimp only [cstC] at hw
    obtain rfl : len = 1 := by simpa using hok
    split at hw
    next => exact lv_lneg hx hb hd (hk _ _ _ hw H locs a hl hP hD hS hg)
    next => exact hw.elim
  | ldiv =>
    dsimp only [cok2C] at hok
    dsimp only [cstC] at hw
    obtain rfl : len = 1 := by simpa using hok
    split at hw
    next => exact lv_ldiv hx hb hd hw.1 (hk _ _ _ hw.2 H locs a hl hP hD hS hg)
    next => exact hw.elim
  | lrem =>
    dsimp only [cok2C] at hok
    dsimp only [cstC] at hw
    obtain rfl : len = 1 := by simpa using hok
    split at hw
    next => exact lv_lrem hx hb hd hw.1 (hk _ _ _ hw.2 H locs a hl hP hD hS hg)
    next => exact hw.elim
  | lshl =>
    dsimp only [cok2C] at hok
    dsimp only [cstC] at hw
    obtain rfl : len = 1 := by simpa using hok
    split at hw
    next => exact lv_lshl hx hb hd rfl (hk _ _ _ hw H locs a hl hP hD hS hg)
    next => exact hw.elim
  | lshr =>
    dsimp only [cok2C] at hok
    dsimp only [cstC] at hw
    obtain rfl : len = 1 := by simpa using hok
    split at hw
    next => exact lv_lshr hx hb hd rfl (hk _ _ _ hw H locs a hl hP hD hS hg)
    next => exact hw.elim
  | lushr =>
    dsimp only [cok2C] at hok
    dsimp only [cstC] at hw
    obtain rfl : len = 1 := by simpa using hok
    split at hw
    next => exact lv_lushr hx hb hd rfl (hk _ _ _ hw H locs a hl hP hD hS hg)
    next => exact hw.elim
  | i2l =>
    dsimp only [cok2C] at hok
    dsimp only [cstC] at hw
    obtain rfl : len = 1 := by simpa using hok
    split at hw
    next => exact lv_i2l hx hb hd rfl (hk _ _ _ hw H locs a hl hP hD hS hg)
    next => exact hw.elim
  | l2i =>
    dsimp only [cok2C] at hok
    dsimp only [cstC] at hw
    obtain rfl : len = 1 := by simpa using hok
    split at hw
    next => exact lv_l2i hx hb hd rfl (hk _ _ _ hw H locs a hl hP hD hS hg)
    next => exact hw.elim
  | i2b =>
    dsimp only [cok2C] at hok
    dsimp only [cstC] at hw
    obtain rfl : len = 1 := by simpa using hok
    split at hw
    next => exact lv_i2b hx hb hd rfl (hk _ _ _ hw H locs a hl hP hD hS hg)
    next => exact hw.elim
  | i2c =>
    dsimp only [cok2C] at hok
    dsimp only [cstC] at hw
    obtain rfl : len = 1 := by simpa using hok
    split at hw
    next => exact lv_i2c hx hb hd rfl (hk _ _ _ hw H locs a hl hP hD hS hg)
    next => exact hw.elim
  | lcmp =>
    dsimp only [cok2C] at hok
    dsimp only [cstC] at hw
    obtain rfl : len = 1 := by simpa using hok
    split at hw
    next => exact W.lcmp hx hb hd (hk _ _ _ hw H locs a hl hP hD hS hg)
    next => exact hw.elim
  | dup =>
    dsimp only [cok2C] at hok
    dsimp only [cstC] at hw
    obtain rfl : len = 1 := by simpa using hok
    split at hw
    next => exact lv_dup hx hb hd rfl (hk _ _ _ hw H locs a hl hP hD hS hg)
    next v r => exact lv_dup hx hb hd (by rw [ctC_cat]; rfl) (hk _ _ _ hw H locs a hl hP hD hS hg)
    next => exact hw.elim
  | dup_x1 =>
    dsimp only [cok2C] at hok
    dsimp only [cstC] at hw
    obtain rfl : len = 1 := by simpa using hok
    split at hw
    next => exact lv_dup_x1 hx hb hd (by rw [ctC_cat]; rfl) (by rw [ctC_cat]; rfl) (hk _ _ _ hw H locs a hl hP hD hS hg)
    next => exact lv_dup_x1 hx hb hd (by rw [ctC_cat]; rfl) (by rw [ctC_cat]; rfl) (hk _ _ _ hw H locs a hl hP hD hS hg)
    next => exact hw.elim
  | pop =>
    dsimp only [cok2C] at hok
    dsimp only [cstC] at hw
    obtain rfl : len = 1 := by simpa using hok
    split at hw
    next => exact lv_pop hx hb hd rfl (hk _ _ _ hw H locs a hl hP hD hS hg)
    next => exact lv_pop hx hb hd (by rw [ctC_cat]; rfl) (hk _ _ _ hw H locs a hl hP hD hS hg)
    next => exact hw.elim
  | pop2 =>
    dsimp only [cok2C] at hok
    dsimp only [cstC] at hw
    obtain rfl : len = 1 := by simpa using hok
    split at hw
    next => exact lv_pop2_2 hx hb hd rfl (hk _ _ _ hw H locs a hl hP hD hS hg)
    next => exact hw.elim
  | ifCond cn o =>
    dsimp only [cok2C] at hok
    dsimp only [cstC] at hw
    simp only [Bool.and_eq_true, beq_iff_eq, decide_eq_true_eq] at hok
    obtain ⟨rfl, ht⟩ := hok
    split at hw
    next v r =>
      obtain ⟨h1, h2⟩ := hw
      cases cn with
      | eq => exact lv_if_eq hx hb hd ht (fun q => hK _ _ _ _ (h1 q) H locs a hl hP hD hS hg) (fun q => hk _ _ _ (h2 q) H locs a hl hP hD hS hg)
      | ne => exact lv_if_ne hx hb hd ht (fun q => hK _ _ _ _ (h1 q) H locs a hl hP hD hS hg) (fun q => hk _ _ _ (h2 q) H locs a hl hP hD hS hg)
      | lt => exact lv_if_lt hx hb hd ht (fun q => hK _ _ _ _ (h1 q) H locs a hl hP hD hS hg) (fun q => hk _ _ _ (h2 q) H locs a hl hP hD hS hg)
      | ge => exact lv_if_ge hx hb hd ht (fun q => hK _ _ _ _ (h1 q) H locs a hl hP hD hS hg) (fun q => hk _ _ _ (h2 q) H locs a hl hP hD hS hg)
      | gt => exact lv_if_gt hx hb hd ht (fun q => hK _ _ _ _ (h1 q) H locs a hl hP hD hS hg) (fun q => hk _ _ _ (h2 q) H locs a hl hP hD hS hg)
      | le => exact lv_if_le hx hb hd ht (fun q => hK _ _ _ _ (h1 q) H locs a hl hP hD hS hg) (fun q => hk _ _ _ (h2 q) H locs a hl hP hD hS hg)
    next => exact hw.elim
  | if_icmp cn o =>
    dsimp only [cok2C] at hok
    dsimp only [cstC] at hw
    simp only [Bool.and_eq_true, beq_iff_eq, decide_eq_true_eq] at hok
    obtain ⟨rfl, ht⟩ := hok
    split at hw
    next v r =>
      obtain ⟨h1, h2⟩ := hw
      cases cn with
      | eq => exact lv_icmp_eq hx hb hd ht (fun q => hK _ _ _ _ (h1 q) H locs a hl hP hD hS hg) (fun q => hk _ _ _ (h2 q) H locs a hl hP hD hS hg)
      | ne => exact lv_icmp_ne hx hb hd ht (fun q => hK _ _ _ _ (h1 q) H locs a hl hP hD hS hg) (fun q => hk _ _ _ (h2 q) H locs a hl hP hD hS hg)
      | lt => exact lv_icmp_lt hx hb hd ht (fun q => hK _ _ _ _ (h1 q) H locs a hl hP hD hS hg) (fun q => hk _ _ _ (h2 q) H locs a hl hP hD hS hg)
      | ge => exact lv_icmp_ge hx hb hd ht (fun q => hK _ _ _ _ (h1 q) H locs a hl hP hD hS hg) (fun q => hk _ _ _ (h2 q) H locs a hl hP hD hS hg)
      | gt => exact lv_icmp_gt hx hb hd ht (fun q => hK _ _ _ _ (h1 q) H locs a hl hP hD hS hg) (fun q => hk _ _ _ (h2 q) H locs a hl hP hD hS hg)
      | le => exact lv_icmp_le hx hb hd ht (fun q => hK _ _ _ _ (h1 q) H locs a hl hP hD hS hg) (fun q => hk _ _ _ (h2 q) H locs a hl hP hD hS hg)
    next => exact hw.elim
  | ifnull o =>
    dsimp only [cok2C] at hok
    dsimp only [cstC] at hw
    simp only [Bool.and_eq_true, beq_iff_eq, decide_eq_true_eq] at hok
    obtain ⟨rfl, ht⟩ := hok
    split at hw
    next v r =>
      obtain ⟨h1, h2⟩ := hw
      cases v with
      | none => exact lv_ifnullN hx hb hd ht (hK _ _ _ _ (h1 rfl) H locs a hl hP hD hS hg)
      | some v => exact lv_ifnull hx hb hd (hk _ _ _ (h2 v rfl) H locs a hl hP hD hS hg)
    next => exact hw.elim
  | ifnonnull o =>
    dsimp only [cok2C] at hok
    dsimp only [cstC] at hw
    simp only [Bool.and_eq_true, beq_iff_eq, decide_eq_true_eq] at hok
    obtain ⟨rfl, ht⟩ := hok
    split at hw
    next v r =>
      obtain ⟨h1, h2⟩ := hw
      cases v with
      | none => exact lv_ifnonnullN hx hb hd (hk _ _ _ (h2 rfl) H locs a hl hP hD hS hg)
      | some v => exact lv_ifnonnull hx hb hd ht (hK _ _ _ _ (h1 v rfl) H locs a hl hP hD hS hg)
    next => exact hw.elim
  | goto o =>
    dsimp only [cok2C] at hok
    dsimp only [cstC] at hw
    simp only [Bool.and_eq_true, beq_iff_eq, decide_eq_true_eq] at hok
    obtain ⟨rfl, ht⟩ := hok
    exact lv_goto hx hb hd ht (hK _ _ _ _ hw H locs a hl hP hD hS hg)
  | tableswitch d lo hi os =>
    dsimp only [cok2C] at hok
    dsimp only [cstC] at hw
    simp only [Bool.and_eq_true, decide_eq_true_eq, List.all_eq_true, List.mem_range] at hok
    obtain ⟨⟨⟨ht, hh⟩, hz⟩, ha⟩ := hok
    split at hw
    next v r =>
      obtain ⟨w1, w2⟩ := rsw_tab (lo := lo) hw (fun j q hq => by
        have hj : j < os.size := by rw [← hz]; exact (List.getElem?_eq_some_iff.mp hq).1
        have h1 := ha j hj
        rw [hq] at h1
        cases ho : os[j]? with
        | none => rw [ho] at h1; cases h1
        | some o => rw [ho] at h1; simp at h1; exact h1.1)
      by_cases hin : v.toInt < lo ∨ hi < v.toInt
      · exact lv_tableOut hx hb hd hin ht (hK _ _ _ _ (w2 (by omega)) H locs a hl hP hD hS hg)
      · have hj : (v.toInt - lo).toNat < cs.length := by omega
        have h1 := ha _ (by rw [← hz]; exact hj)
        have hq := List.getElem?_eq_getElem hj
        rw [hq] at h1
        cases ho : os[(v.toInt - lo).toNat]? with
        | none => rw [ho] at h1; cases h1
        | some o =>
          rw [ho] at h1
          simp at h1
          exact lv_tableIn hx hb hd (by omega) (by omega) ho h1.2 (hK _ _ _ _ (w1 _ _ hq (by omega)) H locs a hl hP hD hS hg)
    next => exact hw.elim
  | lookupswitch d ps =>
    dsimp only [cok2C] at hok
    dsimp only [cstC] at hw
    simp only [Bool.and_eq_true, decide_eq_true_eq] at hok
    obtain ⟨⟨ht, hp⟩, hm⟩ := hok
    split at hw
    next v r =>
      obtain ⟨t, h1, h2⟩ := rsw_look hw ht hm
      exact lv_lookup hx hb hd hp rfl h1 (hK _ _ _ _ h2 H locs a hl hP hD hS hg)
    next => exact hw.elim
  | _ => first | exact hw.elim | (simp [ccsC] at hsel)
end CSO

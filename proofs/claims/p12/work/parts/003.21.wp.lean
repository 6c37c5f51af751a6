/-- an instruction with its length; a, b: what a program has found out about it (a field's kind and number, a callee's arguments and number, a target, a constant), its cases -/
abbrev RI : Type := Instr × Nat × Int × Nat × List (Int × Nat)
abbrev RL : Type := List (Nat × Value)
/-- values: the reference itself is .ref 1000, the row of field k is .ref k -/
def rcv (h : Nat) (ad : Nat → Nat) (v : Value) : Value := match v with
  | .ref n => .ref (match Nat.beq n 1000 with
    | true => h
    | false => ad n)
  | w => w
def rlk (ls : RL) (i : Nat) : Option Value := match ls with
  | [] => none
  | q :: r => match Nat.beq q.1 i with
    | true => some q.2
    | false => rlk r i
/-- does the place q stay when i (and j) are written -/
def rky (i j : Nat) (q : Nat × Value) : Bool := match Nat.beq q.1 i with
  | true => false
  | false => match Nat.beq q.1 j with
    | true => false
    | false => match Nat.beq (q.1 + 1) i with
      | false => true
      | true => match q.2 with
        | .long _ => false
        | .double _ => false
        | _ => true
def rdl (i j : Nat) : RL → RL
  | [] => []
  | q :: r => match rky i j q with
    | true => q :: rdl i j r
    | false => rdl i j r
def rs1 (ls : RL) (i : Nat) (v : Value) : RL := (i, v) :: rdl i i ls
def rs2 (ls : RL) (i : Nat) (v : Value) : RL := (i, v) :: rdl i (i + 1) ls
def rcs (st : List Value) : Nat := match st with
  | [] => 0
  | .long _ :: r => rcs r + 2
  | .double _ :: r => rcs r + 2
  | _ :: r => rcs r + 1
def rcd (c : Jvm.ClassFile.Cond) (x y : Int32) : Prop := match c with
  | .eq => x = y
  | .ne => ¬ x = y
  | .lt => x < y
  | .ge => y ≤ x
  | .gt => y < x
  | .le => x ≤ y
def rno (c : Jvm.ClassFile.Cond) (x y : Int32) : Prop := match c with
  | .eq => ¬ x = y
  | .ne => x = y
  | .lt => ¬ x < y
  | .ge => ¬ y ≤ x
  | .gt => ¬ y < x
  | .le => ¬ x ≤ y
def rsw (x : Int) (l : List (Int × Nat)) (d : Nat) (K : Nat → Prop) : Prop := match l with
  | [] => K d
  | q :: r => (x = q.1 → K q.2) ∧ (¬ x = q.1 → rsw x r d K)
abbrev RK : Type := Nat → RL → List Value → RS → Prop
abbrev RP : Type := List Value → RS → Prop
abbrev RQ : Type := List Value → RS → Option Value → RS → Prop
abbrev RC : Type := List (Nat × RP × RQ)
def rct (ct : RC) (μ : Nat) : Option (RP × RQ) := match ct with
  | [] => none
  | q :: r => match Nat.beq q.1 μ with
    | true => some q.2
    | false => rct r μ
/-- one instruction: what must hold, so that what is behind it (k: the next one, K: a target, Z: the method's end) can be reached -/
def rst (ct : RC) (K : RK) (Z : Option Value → RS → Prop) (x : RI) (pc : Nat) (ls : RL) (st : List Value) (σ : RS) (k : RK) : Prop :=
  match x.1 with
  | .iconst n => k (pc + 1) ls (.int (Int32.ofInt n) :: st) σ
  | .bipush n => k (pc + 2) ls (.int (Int32.ofInt n) :: st) σ
  | .sipush n => k (pc + 3) ls (.int (Int32.ofInt n) :: st) σ
  | .lconst n => k (pc + 1) ls (.long (Int64.ofNat (n : Nat)) :: st) σ
  | .ldc2_w _ => k (pc + 3) ls (.long (Int64.ofInt x.2.2.1) :: st) σ
  | .iload_n _ => match rlk ls x.2.2.2.1 with
    | some (.int v) => k (pc + 1) ls (.int v :: st) σ
    | _ => False
  | .iload n => match rlk ls n with
    | some (.int v) => k (pc + 2) ls (.int v :: st) σ
    | _ => False
  | .lload_n _ => match rlk ls x.2.2.2.1 with
    | some (.long v) => k (pc + 1) ls (.long v :: st) σ
    | _ => False
  | .lload n => match rlk ls n with
    | some (.long v) => k (pc + 2) ls (.long v :: st) σ
    | _ => False
  | .aload_n _ => match rlk ls x.2.2.2.1 with
    | some (.ref v) => k (pc + 1) ls (.ref v :: st) σ
    | _ => False
  | .istore_n _ => match st with
    | .int v :: r => k (pc + 1) (rs1 ls x.2.2.2.1 (.int v)) r σ
    | _ => False
  | .istore n => match st with
    | .int v :: r => k (pc + 2) (rs1 ls n (.int v)) r σ
    | _ => False
  | .lstore_n _ => match st with
    | .long v :: r => k (pc + 1) (rs2 ls x.2.2.2.1 (.long v)) r σ
    | _ => False
  | .lstore n => match st with
    | .long v :: r => k (pc + 2) (rs2 ls n (.long v)) r σ
    | _ => False
  | .iinc n d => match rlk ls n with
    | some (.int v) => k (pc + 3) (rs1 ls n (.int (v + Int32.ofInt d))) st σ
    | _ => False
  | .iadd => match st with
    | .int y :: .int x :: r => k (pc + 1) ls (.int (x + y) :: r) σ
    | _ => False
  | .isub => match st with
    | .int y :: .int x :: r => k (pc + 1) ls (.int (x - y) :: r) σ
    | _ => False
  | .imul => match st with
    | .int y :: .int x :: r => k (pc + 1) ls (.int (x * y) :: r) σ
    | _ => False
  | .iand => match st with
    | .int y :: .int x :: r => k (pc + 1) ls (.int (x &&& y) :: r) σ
    | _ => False
  | .ior => match st with
    | .int y :: .int x :: r => k (pc + 1) ls (.int (x ||| y) :: r) σ
    | _ => False
  | .ishl => match st with
    | .int y :: .int x :: r => ∀ v : Int32, v = x <<< (y &&& 31) → k (pc + 1) ls (.int v :: r) σ
    | _ => False
  | .ishr => match st with
    | .int y :: .int x :: r => k (pc + 1) ls (.int (x >>> (y &&& 31)) :: r) σ
    | _ => False
  | .iushr => match st with
    | .int y :: .int x :: r => ∀ v : Int32, v = (x.toUInt32 >>> (y.toUInt32 &&& Int32.toUInt32 31)).toInt32 → k (pc + 1) ls (.int v :: r) σ
    | _ => False
  | .ladd => match st with
    | .long y :: .long x :: r => k (pc + 1) ls (.long (x + y) :: r) σ
    | _ => False
  | .lsub => match st with
    | .long y :: .long x :: r => k (pc + 1) ls (.long (x - y) :: r) σ
    | _ => False
  | .lmul => match st with
    | .long y :: .long x :: r => k (pc + 1) ls (.long (x * y) :: r) σ
    | _ => False
  | .land => match st with
    | .long y :: .long x :: r => k (pc + 1) ls (.long (x &&& y) :: r) σ
    | _ => False
  | .lor => match st with
    | .long y :: .long x :: r => k (pc + 1) ls (.long (x ||| y) :: r) σ
    | _ => False
  | .lxor => match st with
    | .long y :: .long x :: r => k (pc + 1) ls (.long (x ^^^ y) :: r) σ
    | _ => False
  | .ldiv => match st with
    | .long y :: .long x :: r => ¬ y = 0 ∧ k (pc + 1) ls (.long (x / y) :: r) σ
    | _ => False
  | .lrem => match st with
    | .long y :: .long x :: r => ¬ y = 0 ∧ ∀ v : Int64, v = x - x / y * y → k (pc + 1) ls (.long v :: r) σ
    | _ => False
  | .lneg => match st with
    | .long x :: r => k (pc + 1) ls (.long (-x) :: r) σ
    | _ => False
  | .lshl => match st with
    | .int y :: .long x :: r => ∀ v : Int64, v = x <<< (y.toInt64 &&& 63) → k (pc + 1) ls (.long v :: r) σ
    | _ => False
  | .lshr => match st with
    | .int y :: .long x :: r => ∀ v : Int64, v = x >>> (y.toInt64 &&& 63) → k (pc + 1) ls (.long v :: r) σ
    | _ => False
  | .lushr => match st with
    | .int y :: .long x :: r => ∀ v : Int64, v = (x.toUInt64 >>> (y.toInt64.toUInt64 &&& Int64.toUInt64 63)).toInt64 → k (pc + 1) ls (.long v :: r) σ
    | _ => False
  | .i2l => match st with
    | .int x :: r => k (pc + 1) ls (.long x.toInt64 :: r) σ
    | _ => False
  | .l2i => match st with
    | .long x :: r => k (pc + 1) ls (.int x.toInt32 :: r) σ
    | _ => False
  | .i2b => match st with
    | .int x :: r => k (pc + 1) ls (.int x.toInt8.toInt32 :: r) σ
    | _ => False
  | .i2c => match st with
    | .int x :: r => k (pc + 1) ls (.int (x.toUInt32 % 65536).toInt32 :: r) σ
    | _ => False
  | .lcmp => match st with
    | .long y :: .long x :: r => k (pc + 1) ls (.int (lg_cmp x y) :: r) σ
    | _ => False
  | .dup => match st with
    | .int x :: r => k (pc + 1) ls (.int x :: .int x :: r) σ
    | .ref x :: r => k (pc + 1) ls (.ref x :: .ref x :: r) σ
    | _ => False
  | .dup2 => match st with
    | .int y :: .ref x :: r => k (pc + 1) ls (.int y :: .ref x :: .int y :: .ref x :: r) σ
    | _ => False
  | .pop => match st with
    | .int _ :: r => k (pc + 1) ls r σ
    | _ => False
  | .ifCond c _ => match st with
    | .int v :: r => (rcd c v 0 → K x.2.2.2.1 ls r σ) ∧ (rno c v 0 → k (pc + 3) ls r σ)
    | _ => False
  | .if_icmp c _ => match st with
    | .int y :: .int v :: r => (rcd c v y → K x.2.2.2.1 ls r σ) ∧ (rno c v y → k (pc + 3) ls r σ)
    | _ => False
  | .goto _ => K x.2.2.2.1 ls st σ
  | .tableswitch _ _ _ _ => match st with
    | .int v :: r => rsw v.toInt x.2.2.2.2 x.2.2.2.1 (fun t => K t ls r σ)
    | _ => False
  | .lookupswitch _ _ => match st with
    | .int v :: r => rsw v.toInt x.2.2.2.2 x.2.2.2.1 (fun t => K t ls r σ)
    | _ => False
  | .ireturn => match st with
    | [.int v] => (match Nat.beq x.2.2.1.toNat 2 with
      | true => v = 0 ∨ v = 1
      | false => True) ∧ Z (some (.int v)) σ
    | _ => False
  | .lreturn => match st with
    | [.long v] => Z (some (.long v)) σ
    | _ => False
  | .return_ => match st with
    | [] => Z none σ
    | _ => False
  | .getfield _ => match st with
    | .ref n :: r => n = 1000 ∧ (match Nat.beq x.2.2.1.toNat 0 with
      | true => k (pc + 3) ls (.int (gI σ x.2.2.2.1) :: r) σ
      | false => match Nat.beq x.2.2.1.toNat 1 with
        | true => k (pc + 3) ls (.int (gI σ x.2.2.2.1) :: r) σ
        | false => match Nat.beq x.2.2.1.toNat 2 with
          | true => k (pc + 3) ls (.long (gL σ x.2.2.2.1) :: r) σ
          | false => k (pc + 3) ls (.ref x.2.2.2.1 :: r) σ)
    | _ => False
  | .putfield _ => match st with
    | .int v :: .ref n :: r => n = 1000 ∧ (match Nat.beq x.2.2.1.toNat 0 with
      | true => k (pc + 3) ls r (sI σ x.2.2.2.1 v)
      | false => match Nat.beq x.2.2.1.toNat 1 with
        | true => (v = 0 ∨ v = 1) ∧ k (pc + 3) ls r (sI σ x.2.2.2.1 v)
        | false => False)
    | .long v :: .ref n :: r => n = 1000 ∧ (match Nat.beq x.2.2.1.toNat 2 with
      | true => k (pc + 3) ls r (sL σ x.2.2.2.1 v)
      | false => False)
    | _ => False
  | .iaload => match st with
    | .int j :: .ref n :: r => kd n = 3 ∧ vp_in j (ln n) ∧ k (pc + 1) ls (.int (aI σ n j.toNatClampNeg) :: r) σ
    | _ => False
  | .baload => match st with
    | .int j :: .ref n :: r => kd n = 4 ∧ vp_in j (ln n) ∧ k (pc + 1) ls (.int (aI σ n j.toNatClampNeg) :: r) σ
    | _ => False
  | .laload => match st with
    | .int j :: .ref n :: r => kd n = 5 ∧ vp_in j (ln n) ∧ k (pc + 1) ls (.long (aL σ n j.toNatClampNeg) :: r) σ
    | _ => False
  | .iastore => match st with
    | .int v :: .int j :: .ref n :: r => kd n = 3 ∧ vp_in j (ln n) ∧ k (pc + 1) ls r (sA σ n (upd (aI σ n) j.toNatClampNeg v))
    | _ => False
  | .bastore => match st with
    | .int v :: .int j :: .ref n :: r => kd n = 4 ∧ vp_in j (ln n) ∧ (v = 0 ∨ v = 1) ∧ k (pc + 1) ls r (sA σ n (upd (aI σ n) j.toNatClampNeg v))
    | _ => False
  | .lastore => match st with
    | .long v :: .int j :: .ref n :: r => kd n = 5 ∧ vp_in j (ln n) ∧ k (pc + 1) ls r (sM σ n (vp_updL (aL σ n) j.toNatClampNeg v))
    | _ => False
  | .invokevirtual _ => match rct ct x.2.2.2.1 with
    | some (P, Q) => match st.drop x.2.2.1.toNat with
      | .ref n :: r => n = 1000 ∧ rcs r ≤ 8 ∧ P (st.take x.2.2.1.toNat).reverse σ ∧ ∀ (w : Option Value) (τ : RS), Q (st.take x.2.2.1.toNat).reverse σ w τ → k (pc + 3) ls (w.toList ++ r) τ
      | _ => False
    | none => False
  | _ => False
def rwp (ct : RC) (K : RK) (Z : Option Value → RS → Prop) : List RI → RK
  | [], pc, ls, st, σ => K pc ls st σ
  | x :: is, pc, ls, st, σ => rst ct K Z x pc ls st σ (rwp ct K Z is)

def stvC : List Int32 := [0, 0, 0, 0, 0, 0, 0, 0, 0, 0, 0, 0, 0, 0, 0, 0, 0, 0, 0, 0, 1, 2, 3, 4, 5, 6, 6, 7, 7, 7, 7, 8, 8, 8, 9, 9, 10, 10, 10, 0, 0, 0, 0]
def opvC : List Int32 := [34, 35, 36, 37, 38, 24, 22, 23, 31, 32, 33]
/-! an instruction of the class: what must hold -/
abbrev ClC : Type := List (Nat × AvC)
abbrev CkC : Type := Nat → ClC → List AvC → CsC → Prop
abbrev CpC : Type := List AvC → CsC → Prop
abbrev CqC : Type := List AvC → CsC → Option AvC → CsC → Prop
abbrev CcC : Type := List (Nat × CpC × CqC)
def lkC (ls : ClC) (i : Nat) : Option AvC := match ls with
  | [] => none
  | q :: r => match Nat.beq q.1 i with
    | true => some q.2
    | false => lkC r i
def kyC (i j : Nat) (q : Nat × AvC) : Bool := match Nat.beq q.1 i with
  | true => false
  | false => match Nat.beq q.1 j with
    | true => false
    | false => match Nat.beq (q.1 + 1) i with
      | false => true
      | true => match q.2 with
        | .inr (.inl _) => false
        | _ => true
def dlC (i j : Nat) : ClC → ClC
  | [] => []
  | q :: r => match kyC i j q with
    | true => q :: dlC i j r
    | false => dlC i j r
def s1C (ls : ClC) (i : Nat) (v : AvC) : ClC := (i, v) :: dlC i i ls
def s2C (ls : ClC) (i : Nat) (v : AvC) : ClC := (i, v) :: dlC i (i + 1) ls
def csC (st : List AvC) : Nat := match st with
  | [] => 0
  | .inr (.inl _) :: r => csC r + 2
  | _ :: r => csC r + 1
def ctC (ct : CcC) (μ : Nat) : Option (CpC × CqC) := match ct with
  | [] => none
  | q :: r => match Nat.beq q.1 μ with
    | true => some q.2
    | false => ctC r μ
/-- a value of a kind -/
def kvC (k : Nat) (v : AvC) : Prop := match k with
  | 0 => ∃ x, v = .inl x
  | 1 => v = .inl 0 ∨ v = .inl 1
  | 2 => ∃ x, v = .inr (.inl x)
  | _ => ∃ x, v = .inr (.inr x)
def gtC (σ : CsC) (a k : Nat) : AvC := match fkC k with
  | 0 => .inl (fIC σ a k)
  | 1 => .inl (fIC σ a k)
  | 2 => .inr (.inl (fLC σ a k))
  | _ => .inr (.inr (fRC σ a k))
/-- what a row of references may hold: tag, and the value -/
def hoC (σ : CsC) (t : Nat) (x : Option Nat) : Prop := match x with
  | none => True
  | some b => (t = 104 ∧ ObC σ b 2) ∨ (t = 105 ∧ ObC σ b 9) ∨ (t = 103 ∧ ∃ c, (c = 2 ∨ c = 6 ∨ c = 9 ∨ c = 11) ∧ ObC σ b c)
/-- a receiver: an object of the class, or a text -/
def RcC (σ : CsC) (a c : Nat) : Prop := (ObC σ a c ∧ c < 13) ∨ (c = 13 ∧ 1000003 ≤ a ∧ a < 1000007)
def cstC (ct : CcC) (K : CkC) (Z : Option AvC → CsC → Prop) (x : RI) (pc : Nat) (ls : ClC) (st : List AvC) (σ : CsC) (k : CkC) : Prop :=
  match x.1 with
  | .iconst n => k (pc + 1) ls (.inl (Int32.ofInt n) :: st) σ
  | .bipush n => k (pc + 2) ls (.inl (Int32.ofInt n) :: st) σ
  | .sipush n => k (pc + 3) ls (.inl (Int32.ofInt n) :: st) σ
  | .lconst n => k (pc + 1) ls (.inr (.inl (Int64.ofNat (n : Nat))) :: st) σ
  | .ldc2_w _ => k (pc + 3) ls (.inr (.inl (Int64.ofInt x.2.2.1)) :: st) σ
  | .aconst_null => k (pc + 1) ls (.inr (.inr none) :: st) σ
  | .ldc _ => match Nat.beq x.2.2.2.1 0 with
    | true => k (pc + 2) ls (.inl (Int32.ofInt x.2.2.1) :: st) σ
    | false => k (pc + 2) ls (.inr (.inr (some x.2.2.2.1)) :: st) σ
  | .iload_n _ => match lkC ls x.2.2.2.1 with
    | some (.inl v) => k (pc + 1) ls (.inl v :: st) σ
    | _ => False
  | .iload n => match lkC ls n with
    | some (.inl v) => k (pc + 2) ls (.inl v :: st) σ
    | _ => False
  | .lload_n _ => match lkC ls x.2.2.2.1 with
    | some (.inr (.inl v)) => k (pc + 1) ls (.inr (.inl v) :: st) σ
    | _ => False
  | .lload n => match lkC ls n with
    | some (.inr (.inl v)) => k (pc + 2) ls (.inr (.inl v) :: st) σ
    | _ => False
  | .aload_n _ => match lkC ls x.2.2.2.1 with
    | some (.inr (.inr v)) => k (pc + 1) ls (.inr (.inr v) :: st) σ
    | _ => False
  | .aload n => match lkC ls n with
    | some (.inr (.inr v)) => k (pc + 2) ls (.inr (.inr v) :: st) σ
    | _ => False
  | .istore_n _ => match st with
    | .inl v :: r => k (pc + 1) (s1C ls x.2.2.2.1 (.inl v)) r σ
    | _ => False
  | .istore n => match st with
    | .inl v :: r => k (pc + 2) (s1C ls n (.inl v)) r σ
    | _ => False
  | .lstore_n _ => match st with
    | .inr (.inl v) :: r => k (pc + 1) (s2C ls x.2.2.2.1 (.inr (.inl v))) r σ
    | _ => False
  | .lstore n => match st with
    | .inr (.inl v) :: r => k (pc + 2) (s2C ls n (.inr (.inl v))) r σ
    | _ => False
  | .astore_n _ => match st with
    | .inr (.inr v) :: r => k (pc + 1) (s1C ls x.2.2.2.1 (.inr (.inr v))) r σ
    | _ => False
  | .astore n => match st with
    | .inr (.inr v) :: r => k (pc + 2) (s1C ls n (.inr (.inr v))) r σ
    | _ => False
  | .iinc n d => match lkC ls n with
    | some (.inl v) => k (pc + 3) (s1C ls n (.inl (v + Int32.ofInt d))) st σ
    | _ => False
  | .iadd => match st with
    | .inl y :: .inl x :: r => k (pc + 1) ls (.inl (x + y) :: r) σ
    | _ => False
  | .isub => match st with
    | .inl y :: .inl x :: r => k (pc + 1) ls (.inl (x - y) :: r) σ
    | _ => False
  | .iand => match st with
    | .inl y :: .inl x :: r => k (pc + 1) ls (.inl (x &&& y) :: r) σ
    | _ => False
  | .ior => match st with
    | .inl y :: .inl x :: r => k (pc + 1) ls (.inl (x ||| y) :: r) σ
    | _ => False
  | .ishr => match st with
    | .inl y :: .inl x :: r => k (pc + 1) ls (.inl (x >>> (y &&& 31)) :: r) σ
    | _ => False
  | .imul => match st with
    | .inl y :: .inl x :: r => k (pc + 1) ls (.inl (x * y) :: r) σ
    | _ => False
  | .ishl => match st with
    | .inl y :: .inl x :: r => k (pc + 1) ls (.inl (x <<< (y &&& 31)) :: r) σ
    | _ => False
  | .iushr => match st with
    | .inl y :: .inl x :: r => k (pc + 1) ls (.inl ((x.toUInt32 >>> (y.toUInt32 &&& Int32.toUInt32 31)).toInt32) :: r) σ
    | _ => False
  | .irem => match st with
    | .inl y :: .inl x :: r => ¬ y = 0 ∧ k (pc + 1) ls (.inl (x - x / y * y) :: r) σ
    | _ => False
  | .ladd => match st with
    | .inr (.inl y) :: .inr (.inl x) :: r => k (pc + 1) ls (.inr (.inl (x + y)) :: r) σ
    | _ => False
  | .lsub => match st with
    | .inr (.inl y) :: .inr (.inl x) :: r => k (pc + 1) ls (.inr (.inl (x - y)) :: r) σ
    | _ => False
  | .lmul => match st with
    | .inr (.inl y) :: .inr (.inl x) :: r => k (pc + 1) ls (.inr (.inl (x * y)) :: r) σ
    | _ => False
  | .land => match st with
    | .inr (.inl y) :: .inr (.inl x) :: r => k (pc + 1) ls (.inr (.inl (x &&& y)) :: r) σ
    | _ => False
  | .lor => match st with
    | .inr (.inl y) :: .inr (.inl x) :: r => k (pc + 1) ls (.inr (.inl (x ||| y)) :: r) σ
    | _ => False
  | .lxor => match st with
    | .inr (.inl y) :: .inr (.inl x) :: r => k (pc + 1) ls (.inr (.inl (x ^^^ y)) :: r) σ
    | _ => False
  | .ldiv => match st with
    | .inr (.inl y) :: .inr (.inl x) :: r => ¬ y = 0 ∧ k (pc + 1) ls (.inr (.inl (x / y)) :: r) σ
    | _ => False
  | .lrem => match st with
    | .inr (.inl y) :: .inr (.inl x) :: r => ¬ y = 0 ∧ k (pc + 1) ls (.inr (.inl (x - x / y * y)) :: r) σ
    | _ => False
  | .lshl => match st with
    | .inl y :: .inr (.inl x) :: r => k (pc + 1) ls (.inr (.inl (x <<< (y.toInt64 &&& 63))) :: r) σ
    | _ => False
  | .lshr => match st with
    | .inl y :: .inr (.inl x) :: r => k (pc + 1) ls (.inr (.inl (x >>> (y.toInt64 &&& 63))) :: r) σ
    | _ => False
  | .lushr => match st with
    | .inl y :: .inr (.inl x) :: r => k (pc + 1) ls (.inr (.inl ((x.toUInt64 >>> (y.toInt64.toUInt64 &&& Int64.toUInt64 63)).toInt64)) :: r) σ
    | _ => False
  | .lneg => match st with
    | .inr (.inl x) :: r => k (pc + 1) ls (.inr (.inl (-x)) :: r) σ
    | _ => False
  | .lcmp => match st with
    | .inr (.inl y) :: .inr (.inl x) :: r => k (pc + 1) ls (.inl (lg_cmp x y) :: r) σ
    | _ => False
  | .i2l => match st with
    | .inl x :: r => k (pc + 1) ls (.inr (.inl x.toInt64) :: r) σ
    | _ => False
  | .l2i => match st with
    | .inr (.inl x) :: r => k (pc + 1) ls (.inl x.toInt32 :: r) σ
    | _ => False
  | .i2b => match st with
    | .inl x :: r => k (pc + 1) ls (.inl x.toInt8.toInt32 :: r) σ
    | _ => False
  | .i2c => match st with
    | .inl x :: r => k (pc + 1) ls (.inl (x.toUInt32 % 65536).toInt32 :: r) σ
    | _ => False
  | .dup => match st with
    | .inl v :: r => k (pc + 1) ls (.inl v :: .inl v :: r) σ
    | .inr (.inr v) :: r => k (pc + 1) ls (.inr (.inr v) :: .inr (.inr v) :: r) σ
    | _ => False
  | .dup_x1 => match st with
    | .inl v :: .inr (.inr y) :: r => k (pc + 1) ls (.inl v :: .inr (.inr y) :: .inl v :: r) σ
    | .inr (.inr v) :: .inr (.inr y) :: r => k (pc + 1) ls (.inr (.inr v) :: .inr (.inr y) :: .inr (.inr v) :: r) σ
    | _ => False
  | .pop => match st with
    | .inl _ :: r => k (pc + 1) ls r σ
    | .inr (.inr _) :: r => k (pc + 1) ls r σ
    | _ => False
  | .pop2 => match st with
    | .inr (.inl _) :: r => k (pc + 1) ls r σ
    | _ => False
  | .ifCond c _ => match st with
    | .inl v :: r => (rcd c v 0 → K x.2.2.2.1 ls r σ) ∧ (rno c v 0 → k (pc + 3) ls r σ)
    | _ => False
  | .if_icmp c _ => match st with
    | .inl y :: .inl v :: r => (rcd c v y → K x.2.2.2.1 ls r σ) ∧ (rno c v y → k (pc + 3) ls r σ)
    | _ => False
  | .ifnull _ => match st with
    | .inr (.inr v) :: r => (v = none → K x.2.2.2.1 ls r σ) ∧ (∀ a, v = some a → k (pc + 3) ls r σ)
    | _ => False
  | .ifnonnull _ => match st with
    | .inr (.inr v) :: r => (∀ a, v = some a → K x.2.2.2.1 ls r σ) ∧ (v = none → k (pc + 3) ls r σ)
    | _ => False
  | .if_acmp c _ => match st with
    | .inr (.inr y) :: .inr (.inr v) :: r => (match c with
      | .eq => (v = y → K x.2.2.2.1 ls r σ) ∧ (¬ v = y → k (pc + 3) ls r σ)
      | .ne => (¬ v = y → K x.2.2.2.1 ls r σ) ∧ (v = y → k (pc + 3) ls r σ)) ∧ ((v = y) ∨ ((∀ a, v = some a → a < cnC σ) ∧ ∀ a, y = some a → a < cnC σ))
    | _ => False
  | .goto _ => K x.2.2.2.1 ls st σ
  | .tableswitch _ _ _ _ => match st with
    | .inl v :: r => rsw v.toInt x.2.2.2.2 x.2.2.2.1 (fun t => K t ls r σ)
    | _ => False
  | .lookupswitch _ _ => match st with
    | .inl v :: r => rsw v.toInt x.2.2.2.2 x.2.2.2.1 (fun t => K t ls r σ)
    | _ => False
  | .ireturn => match st with
    | [.inl v] => (x.2.2.1 = 2 → v = 0 ∨ v = 1) ∧ Z (some (.inl v)) σ
    | _ => False
  | .lreturn => match st with
    | [.inr (.inl v)] => Z (some (.inr (.inl v))) σ
    | _ => False
  | .areturn => match st with
    | [.inr (.inr v)] => Z (some (.inr (.inr v))) σ
    | _ => False
  | .return_ => match st with
    | [] => ∃ τ, WeC σ τ ∧ Z none τ
    | _ => False
  | .getfield _ => match st with
    | .inr (.inr v) :: r => ∃ a, v = some a ∧ ObC σ a (x.2.2.2.1 / 30) ∧ k (pc + 3) ls (gtC σ a x.2.2.2.1 :: r) σ
    | _ => False
  | .putfield _ => match st with
    | .inl w :: .inr (.inr v) :: r => ∃ a, v = some a ∧ ObC σ a (x.2.2.2.1 / 30) ∧ (fkC x.2.2.2.1 = 0 ∨ (fkC x.2.2.2.1 = 1 ∧ (w = 0 ∨ w = 1))) ∧ k (pc + 3) ls r (pIC σ a x.2.2.2.1 w)
    | .inr (.inl w) :: .inr (.inr v) :: r => ∃ a, v = some a ∧ ObC σ a (x.2.2.2.1 / 30) ∧ fkC x.2.2.2.1 = 2 ∧ k (pc + 3) ls r (pLC σ a x.2.2.2.1 w)
    | .inr (.inr w) :: .inr (.inr v) :: r => ∃ a, v = some a ∧ ObC σ a (x.2.2.2.1 / 30) ∧ fkC x.2.2.2.1 = 3 ∧ k (pc + 3) ls r (pRC σ a x.2.2.2.1 w)
    | _ => False
  | .iaload => match st with
    | .inl j :: .inr (.inr v) :: r => ∃ a, v = some a ∧ ((RwC σ a 100 ∧ vp_in j (alC σ a) ∧ k (pc + 1) ls (.inl (eIC σ a j.toNatClampNeg) :: r) σ) ∨ (a = 1000001 ∧ vp_in j 43 ∧ k (pc + 1) ls (.inl (stvC.getD j.toNatClampNeg 0) :: r) σ) ∨ (a = 1000002 ∧ vp_in j 11 ∧ k (pc + 1) ls (.inl (opvC.getD j.toNatClampNeg 0) :: r) σ))
    | _ => False
  | .baload => match st with
    | .inl j :: .inr (.inr v) :: r => ∃ a, v = some a ∧ RwC σ a 101 ∧ vp_in j (alC σ a) ∧ k (pc + 1) ls (.inl (eIC σ a j.toNatClampNeg) :: r) σ
    | _ => False
  | .laload => match st with
    | .inl j :: .inr (.inr v) :: r => ∃ a, v = some a ∧ RwC σ a 102 ∧ vp_in j (alC σ a) ∧ k (pc + 1) ls (.inr (.inl (eLC σ a j.toNatClampNeg)) :: r) σ
    | _ => False
  | .aaload => match st with
    | .inl j :: .inr (.inr v) :: r => ∃ a t, v = some a ∧ RwC σ a t ∧ (t = 103 ∨ t = 104 ∨ t = 105) ∧ vp_in j (alC σ a) ∧ k (pc + 1) ls (.inr (.inr (eRC σ a j.toNatClampNeg)) :: r) σ
    | _ => False
  | .iastore => match st with
    | .inl w :: .inl j :: .inr (.inr v) :: r => ∃ a, v = some a ∧ RwC σ a 100 ∧ vp_in j (alC σ a) ∧ k (pc + 1) ls r (qIC σ a (upd (eIC σ a) j.toNatClampNeg w))
    | _ => False
  | .bastore => match st with
    | .inl w :: .inl j :: .inr (.inr v) :: r => ∃ a, v = some a ∧ RwC σ a 101 ∧ vp_in j (alC σ a) ∧ k (pc + 1) ls r (qIC σ a (upd (eIC σ a) j.toNatClampNeg (vp_nar .byte w)))
    | _ => False
  | .lastore => match st with
    | .inr (.inl w) :: .inl j :: .inr (.inr v) :: r => ∃ a, v = some a ∧ RwC σ a 102 ∧ vp_in j (alC σ a) ∧ k (pc + 1) ls r (qLC σ a (vp_updL (eLC σ a) j.toNatClampNeg w))
    | _ => False
  | .aastore => match st with
    | .inr (.inr w) :: .inl j :: .inr (.inr v) :: r => ∃ a t, v = some a ∧ RwC σ a t ∧ (t = 103 ∨ t = 104 ∨ t = 105) ∧ vp_in j (alC σ a) ∧ hoC σ t w ∧ k (pc + 1) ls r (qRC σ a (va_up (eRC σ a) j.toNatClampNeg w))
    | _ => False
  | .arraylength => match st with
    | .inr (.inr v) :: r => ∃ a, v = some a ∧ ((a < cnC σ ∧ 100 ≤ tgC σ a ∧ tgC σ a ≤ 105 ∧ alC σ a < 2147483648 ∧ k (pc + 1) ls (.inl (nI (alC σ a)) :: r) σ) ∨ ∃ n, ((a = 1000000 ∧ n = 0) ∨ (a = 1000001 ∧ n = 43) ∨ (a = 1000002 ∧ n = 11)) ∧ k (pc + 1) ls (.inl (nI n) :: r) σ)
    | _ => False
  | .newarray _ => match st with
    | .inl n :: r => 0 ≤ n ∧ n ≤ 1000000 ∧ cnC σ + 1 ≤ cpC σ ∧ slC σ + n.toNatClampNeg ≤ spC σ ∧ k (pc + 2) ls (.inr (.inr (some (cnC σ))) :: r) (nAC σ x.2.2.2.1 n.toNatClampNeg x.2.2.1.toNat)
    | _ => False
  | .anewarray _ => match st with
    | .inl n :: r => 0 ≤ n ∧ n ≤ 1000000 ∧ cnC σ + 1 ≤ cpC σ ∧ slC σ + n.toNatClampNeg ≤ spC σ ∧ k (pc + 3) ls (.inr (.inr (some (cnC σ))) :: r) (nAC σ x.2.2.2.1 n.toNatClampNeg x.2.2.1.toNat)
    | _ => False
  | .new _ => cnC σ + 1 ≤ cpC σ ∧ slC σ + nfC x.2.2.2.1 ≤ spC σ ∧ k (pc + 3) ls (.inr (.inr (some (cnC σ))) :: st) (nOC σ (x.2.2.2.1 + 50) (nfC x.2.2.2.1) x.2.2.1.toNat)
  | .checkcast _ => match st with
    | .inr (.inr none) :: r => k (pc + 3) ls (.inr (.inr none) :: r) σ
    | .inr (.inr (some a)) :: r => ObC σ a x.2.2.2.1 ∧ k (pc + 3) ls (.inr (.inr (some a)) :: r) σ
    | _ => False
  | .getstatic _ => k (pc + 3) ls (.inr (.inr (some x.2.2.2.1)) :: st) σ
  | .invokevirtual _ => match Nat.beq x.2.2.2.1 9998 with
    | true => (match st with
      | .inr (.inr v) :: r => ∃ a, v = some a ∧ RwC σ a 103 ∧ csC r ≤ 8 ∧ k (pc + 3) ls (.inr (.inr (some 1000011)) :: r) σ
      | _ => False)
    | false => match ctC ct x.2.2.2.1 with
        | some (P, Q) => match st.drop x.2.2.1.toNat with
          | .inr (.inr (some a)) :: r => csC r ≤ 8 ∧ RcC σ a (x.2.2.2.2.length) ∧ P (.inr (.inr (some a)) :: (st.take x.2.2.1.toNat).reverse) σ ∧ ∀ w τ, Q (.inr (.inr (some a)) :: (st.take x.2.2.1.toNat).reverse) σ w τ → k (pc + 3) ls (w.toList ++ r) τ
          | _ => False
        | none => False
  | .invokespecial _ => match Nat.beq x.2.2.2.1 9999 with
    | true => (match st with
      | .inr (.inr (some _)) :: r => csC r ≤ 8 ∧ k (pc + 3) ls r σ
      | _ => False)
    | false => match ctC ct x.2.2.2.1 with
      | some (P, Q) => match st.drop x.2.2.1.toNat with
        | .inr (.inr (some a)) :: r => csC r ≤ 8 ∧ P (.inr (.inr (some a)) :: (st.take x.2.2.1.toNat).reverse) σ ∧ ∀ w τ, Q (.inr (.inr (some a)) :: (st.take x.2.2.1.toNat).reverse) σ w τ → k (pc + 3) ls (w.toList ++ r) τ
        | _ => False
      | none => False
  | .invokestatic _ => match Nat.ble 9990 x.2.2.2.1 with
    | true => (match Nat.beq x.2.2.2.1 9997 with
      | true => (match st with
        | .inl n :: .inl dp :: .inr (.inr w) :: .inl sp :: .inr (.inr v) :: r => ∃ a b, v = some a ∧ w = some b ∧ RwC σ a 103 ∧ RwC σ b 103 ∧ (¬ sp < 0 ∧ ¬ dp < 0 ∧ ¬ n < 0) ∧ (sp.toNatClampNeg + n.toNatClampNeg ≤ alC σ a ∧ dp.toNatClampNeg + n.toNatClampNeg ≤ alC σ b) ∧ (∀ i, i < n.toNatClampNeg → hoC σ 103 (eRC σ a (sp.toNatClampNeg + i))) ∧ csC r ≤ 8 ∧ k (pc + 3) ls r (qRC σ b (va_cpy (eRC σ a) (eRC σ b) sp.toNatClampNeg dp.toNatClampNeg n.toNatClampNeg))
        | _ => False)
      | false => (match Nat.beq x.2.2.2.1 9996 with
        | true => (match st with
          | .inl y :: .inl v :: r => csC r ≤ 8 ∧ k (pc + 3) ls (.inl (if y < v then y else v) :: r) σ
          | _ => False)
        | false => (match st with
          | .inl y :: .inl v :: r => csC r ≤ 8 ∧ k (pc + 3) ls (.inl (if v < y then y else v) :: r) σ
          | _ => False)))
    | false => match ctC ct x.2.2.2.1 with
        | some (P, Q) => x.2.2.1.toNat ≤ st.length ∧ csC (st.drop x.2.2.1.toNat) ≤ 8 ∧ P (st.take x.2.2.1.toNat).reverse σ ∧ ∀ w τ, Q (st.take x.2.2.1.toNat).reverse σ w τ → k (pc + 3) ls (w.toList ++ st.drop x.2.2.1.toNat) τ
        | none => False
  | _ => False
def cwpC (ct : CcC) (K : CkC) (Z : Option AvC → CsC → Prop) : List RI → CkC
  | [], pc, ls, st, σ => K pc ls st σ
  | x :: is, pc, ls, st, σ => cstC ct K Z x pc ls st σ (cwpC ct K Z is)
def cgoC (bs : RB) (ct : CcC) (K : CkC) (Z : Option AvC → CsC → Prop) : CkC := fun pc ls st σ => match rfd bs pc with
  | some is => cwpC ct K Z is pc ls st σ
  | none => False

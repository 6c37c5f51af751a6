abbrev UcC : Type := List (Nat × CqC)
def uoC (ct : UcC) (μ : Nat) : Option CqC := match ct with
  | [] => none
  | q :: r => match Nat.beq q.1 μ with
    | true => some q.2
    | false => uoC r μ
def uqC (ct : UcC) (μ : Nat) : CqC := match uoC ct μ with
  | none => fun _ _ _ _ => True
  | some Q => Q
/-- both contracts of a method that is called -/
def uc2C (c1 : CcC) (c2 : UcC) : CcC := c1.map (fun q => (q.1, q.2.1, match uoC c2 q.1 with
  | none => q.2.2
  | some Q => fun As σ w τ => q.2.2 As σ w τ ∧ Q As σ w τ))
theorem uc2_some {c2 : UcC} {μ : Nat} {P : CpC} {Q : CqC} : ∀ {c1 : CcC}, ctC c1 μ = some (P, Q) → ∃ Q', ctC (uc2C c1 c2) μ = some (P, Q') ∧ ∀ As σ w τ, Q' As σ w τ → Q As σ w τ ∧ uqC c2 μ As σ w τ := by
  intro c1
  induction c1 with
  | nil => intro h; cases h
  | cons q r ih =>
    intro h
    obtain ⟨a, P1, Q1⟩ := q
    show ∃ Q', ctC ((a, P1, match uoC c2 a with
      | none => Q1
      | some Q => fun As σ w τ => Q1 As σ w τ ∧ Q As σ w τ) :: uc2C r c2) μ = some (P, Q') ∧ _
    unfold ctC at h ⊢
    dsimp only at h ⊢
    cases hb : Nat.beq a μ with
    | true =>
      rw [hb] at h
      have e : a = μ := Nat.eq_of_beq_eq_true hb
      cases h
      subst e
      refine ⟨_, rfl, fun As σ w τ q => ?_⟩
      unfold uqC
      cases ho : uoC c2 a with
      | none => rw [ho] at q; exact ⟨q, trivial⟩
      | some Q2 => rw [ho] at q; exact q
    | false =>
      rw [hb] at h
      exact ih h
def UqC (ls : ClC) : Prop := ∀ i v v', (i, v) ∈ ls → (i, v') ∈ ls → v = v'
theorem lkC_some {i : Nat} {v : AvC} : ∀ {m : ClC}, (i, v) ∈ m → ∃ v', lkC m i = some v' := by
  intro m
  induction m with
  | nil => intro h; cases h
  | cons q r ih =>
    intro h
    unfold lkC
    cases hb : Nat.beq q.1 i with
    | true => exact ⟨q.2, rfl⟩
    | false =>
      rcases List.mem_cons.mp h with e | h
      · rw [← e, show Nat.beq (i, v).1 i = true from Nat.beq_refl i] at hb
        cases hb
      · exact ih h
theorem UqC.lk {ls m : ClC} (h : UqC m) (hs : ∀ q ∈ ls, q ∈ m) {i : Nat} {v : AvC} (hl : lkC ls i = some v) : lkC m i = some v := by
  have a := hs _ (lkC_mem hl)
  obtain ⟨v', e⟩ := lkC_some a
  rw [e, h i v' v (lkC_mem e) a]
theorem dlC_key {i j : Nat} : ∀ (l : ClC) (q : Nat × AvC), q ∈ dlC i j l ↔ q ∈ l ∧ kyC i j q = true := by
  intro l
  induction l with
  | nil => intro q; exact ⟨fun h => absurd h List.not_mem_nil, fun h => absurd h.1 List.not_mem_nil⟩
  | cons y r ih =>
    intro q
    unfold dlC
    cases hy : kyC i j y with
    | true =>
      dsimp only
      rw [List.mem_cons, List.mem_cons, ih q]
      refine ⟨fun h => h.elim (fun e => ⟨Or.inl e, by rw [e]; exact hy⟩) (fun h => ⟨Or.inr h.1, h.2⟩), fun h => h.1.elim (fun e => Or.inl e) (fun m => Or.inr ⟨m, h.2⟩)⟩
    | false =>
      dsimp only
      rw [List.mem_cons, ih q]
      refine ⟨fun h => ⟨Or.inr h.1, h.2⟩, fun h => h.1.elim (fun e => ?_) (fun m => ⟨m, h.2⟩)⟩
      rw [e, hy] at h
      exact absurd h.2 (by decide)
theorem kyC_ne {i j : Nat} {q : Nat × AvC} (h : kyC i j q = true) : q.1 ≠ i := by
  intro e
  unfold kyC at h
  rw [e, show Nat.beq i i = true from Nat.beq_refl i] at h
  cases h
theorem dlC_sub {i j : Nat} {ls m : ClC} (h : ∀ q ∈ ls, q ∈ m) : ∀ q ∈ dlC i j ls, q ∈ dlC i j m := by
  intro q hq
  rw [dlC_key] at hq ⊢
  exact ⟨h q hq.1, hq.2⟩
theorem s1C_sub {i : Nat} {v : AvC} {ls m : ClC} (h : ∀ q ∈ ls, q ∈ m) : ∀ q ∈ s1C ls i v, q ∈ s1C m i v := by
  intro q hq
  unfold s1C at hq ⊢
  exact (List.mem_cons.mp hq).elim (fun e => List.mem_cons.mpr (Or.inl e)) (fun p => List.mem_cons.mpr (Or.inr (dlC_sub h q p)))
theorem s2C_sub {i : Nat} {v : AvC} {ls m : ClC} (h : ∀ q ∈ ls, q ∈ m) : ∀ q ∈ s2C ls i v, q ∈ s2C m i v := by
  intro q hq
  unfold s2C at hq ⊢
  exact (List.mem_cons.mp hq).elim (fun e => List.mem_cons.mpr (Or.inl e)) (fun p => List.mem_cons.mpr (Or.inr (dlC_sub h q p)))
theorem UqC.cn {ls : ClC} (h : UqC ls) {i j : Nat} {v : AvC} : UqC ((i, v) :: dlC i j ls) := by
  intro k a b ha hb
  rcases List.mem_cons.mp ha with ea | ma <;> rcases List.mem_cons.mp hb with eb | mb
  · cases ea; cases eb; rfl
  · cases ea; exact absurd rfl (kyC_ne ((dlC_key _ _).mp mb).2)
  · cases eb; exact absurd rfl (kyC_ne ((dlC_key _ _).mp ma).2)
  · exact h k a b ((dlC_key _ _).mp ma).1 ((dlC_key _ _).mp mb).1
theorem UqC.r1 {ls : ClC} (h : UqC ls) {i : Nat} {v : AvC} : UqC (s1C ls i v) := h.cn
theorem UqC.r2 {ls : ClC} (h : UqC ls) {i : Nat} {v : AvC} : UqC (s2C ls i v) := h.cn
theorem rsw_1 {x : Int} {d : Nat} {K K' : Nat → Prop} : ∀ {l : List (Int × Nat)}, rsw x l d K → (∀ t, K t → K' t) → rsw x l d K' := by
  intro l
  induction l with
  | nil => exact fun h f => f _ h
  | cons q r ih => exact fun h f => ⟨fun e => f _ (h.1 e), fun e => ih (h.2 e) f⟩
theorem rsw_2 {ι : Type} {x : Int} {d : Nat} {K1 K : Nat → Prop} {K2 : ι → Nat → Prop} : ∀ {l : List (Int × Nat)}, rsw x l d K1 → (∀ n, rsw x l d (K2 n)) → (∀ t, K1 t → (∀ n, K2 n t) → K t) → rsw x l d K := by
  intro l
  induction l with
  | nil => exact fun h g f => f _ h g
  | cons q r ih => exact fun h g f => ⟨fun e => f _ (h.1 e) (fun n => (g n).1 e), fun e => ih (h.2 e) (fun n => (g n).2 e) f⟩
theorem agC_uq (vs : List AvC) : ∀ i, UqC (agC i vs) ∧ ∀ k v, (k, v) ∈ agC i vs → i ≤ k := by
  induction vs with
  | nil => exact fun i => ⟨fun k a b ha => absurd ha List.not_mem_nil, fun k v h => absurd h List.not_mem_nil⟩
  | cons x r ih =>
    intro i
    unfold agC
    have key : ∀ j, i < j → (UqC ((i, x) :: agC j r) ∧ ∀ k v, (k, v) ∈ (i, x) :: agC j r → i ≤ k) := by
      intro j hj
      refine ⟨fun k a b ha hb => ?_, fun k v h => ?_⟩
      · rcases List.mem_cons.mp ha with ea | ma <;> rcases List.mem_cons.mp hb with eb | mb
        · cases ea; cases eb; rfl
        · cases ea; have := (ih j).2 _ _ mb; omega
        · cases eb; have := (ih j).2 _ _ ma; omega
        · exact (ih j).1 k a b ma mb
      · rcases List.mem_cons.mp h with e | h
        · cases e; exact Nat.le_refl _
        · have := (ih j).2 _ _ h; omega
    first
      | exact key _ (by omega)
      | (split <;> exact key _ (by omega))
def ucsC (c1 : CcC) (ct : UcC) (K : CkC) (Z : Option AvC → CsC → Prop) (x : RI) (pc : Nat) (ls : ClC) (st : List AvC) (σ : CsC) (k : CkC) : Prop :=
  match x.1 with
  | .iconst n => k (pc + 1) ls (.inl (Int32.ofInt n) :: st) σ
  | .bipush n => k (pc + 2) ls (.inl (Int32.ofInt n) :: st) σ
  | .sipush n => k (pc + 3) ls (.inl (Int32.ofInt n) :: st) σ
  | .lconst n => k (pc + 1) ls (.inr (.inl (Int64.ofNat (n : Nat))) :: st) σ
  | .ldc2_w _ => k (pc + 3) ls (.inr (.inl (Int64.ofInt x.2.2.1)) :: st) σ
  | .aconst_null => k (pc + 1) ls (.inr (.inr none) :: st) σ
  | .ldc _ => match Nat.beq x.2.2.2.1 0 with
    | true => k (pc + 2) ls (.inl (Int32.ofInt x.2.2.1) :: st) σ
    | false => k (pc + 2) ls (.inr (.inr (some x.2.2.2.1)) :: st) σ
  | .iload_n _ => match lkC ls x.2.2.2.1 with
    | some (.inl v) => k (pc + 1) ls (.inl v :: st) σ
    | _ => False
  | .iload n => match lkC ls n with
    | some (.inl v) => k (pc + 2) ls (.inl v :: st) σ
    | _ => False
  | .lload_n _ => match lkC ls x.2.2.2.1 with
    | some (.inr (.inl v)) => k (pc + 1) ls (.inr (.inl v) :: st) σ
    | _ => False
  | .lload n => match lkC ls n with
    | some (.inr (.inl v)) => k (pc + 2) ls (.inr (.inl v) :: st) σ
    | _ => False
  | .aload_n _ => match lkC ls x.2.2.2.1 with
    | some (.inr (.inr v)) => k (pc + 1) ls (.inr (.inr v) :: st) σ
    | _ => False
  | .aload n => match lkC ls n with
    | some (.inr (.inr v)) => k (pc + 2) ls (.inr (.inr v) :: st) σ
    | _ => False
  | .istore_n _ => match st with
    | .inl v :: r => k (pc + 1) (s1C ls x.2.2.2.1 (.inl v)) r σ
    | _ => True
  | .istore n => match st with
    | .inl v :: r => k (pc + 2) (s1C ls n (.inl v)) r σ
    | _ => True
  | .lstore_n _ => match st with
    | .inr (.inl v) :: r => k (pc + 1) (s2C ls x.2.2.2.1 (.inr (.inl v))) r σ
    | _ => True
  | .lstore n => match st with
    | .inr (.inl v) :: r => k (pc + 2) (s2C ls n (.inr (.inl v))) r σ
    | _ => True
  | .astore_n _ => match st with
    | .inr (.inr v) :: r => k (pc + 1) (s1C ls x.2.2.2.1 (.inr (.inr v))) r σ
    | _ => True
  | .astore n => match st with
    | .inr (.inr v) :: r => k (pc + 2) (s1C ls n (.inr (.inr v))) r σ
    | _ => True
  | .iinc n d => match lkC ls n with
    | some (.inl v) => k (pc + 3) (s1C ls n (.inl (v + Int32.ofInt d))) st σ
    | _ => False
  | .iadd => match st with
    | .inl y :: .inl x :: r => k (pc + 1) ls (.inl (x + y) :: r) σ
    | _ => True
  | .isub => match st with
    | .inl y :: .inl x :: r => k (pc + 1) ls (.inl (x - y) :: r) σ
    | _ => True
  | .iand => match st with
    | .inl y :: .inl x :: r => k (pc + 1) ls (.inl (x &&& y) :: r) σ
    | _ => True
  | .ior => match st with
    | .inl y :: .inl x :: r => k (pc + 1) ls (.inl (x ||| y) :: r) σ
    | _ => True
  | .ishr => match st with
    | .inl y :: .inl x :: r => k (pc + 1) ls (.inl (x >>> (y &&& 31)) :: r) σ
    | _ => True
  | .imul => match st with
    | .inl y :: .inl x :: r => k (pc + 1) ls (.inl (x * y) :: r) σ
    | _ => True
  | .ishl => match st with
    | .inl y :: .inl x :: r => k (pc + 1) ls (.inl (x <<< (y &&& 31)) :: r) σ
    | _ => True
  | .iushr => match st with
    | .inl y :: .inl x :: r => k (pc + 1) ls (.inl ((x.toUInt32 >>> (y.toUInt32 &&& Int32.toUInt32 31)).toInt32) :: r) σ
    | _ => True
  | .irem => match st with
    | .inl y :: .inl x :: r => k (pc + 1) ls (.inl (x - x / y * y) :: r) σ
    | _ => True
  | .ladd => match st with
    | .inr (.inl y) :: .inr (.inl x) :: r => k (pc + 1) ls (.inr (.inl (x + y)) :: r) σ
    | _ => True
  | .lsub => match st with
    | .inr (.inl y) :: .inr (.inl x) :: r => k (pc + 1) ls (.inr (.inl (x - y)) :: r) σ
    | _ => True
  | .lmul => match st with
    | .inr (.inl y) :: .inr (.inl x) :: r => k (pc + 1) ls (.inr (.inl (x * y)) :: r) σ
    | _ => True
  | .land => match st with
    | .inr (.inl y) :: .inr (.inl x) :: r => k (pc + 1) ls (.inr (.inl (x &&& y)) :: r) σ
    | _ => True
  | .lor => match st with
    | .inr (.inl y) :: .inr (.inl x) :: r => k (pc + 1) ls (.inr (.inl (x ||| y)) :: r) σ
    | _ => True
  | .lxor => match st with
    | .inr (.inl y) :: .inr (.inl x) :: r => k (pc + 1) ls (.inr (.inl (x ^^^ y)) :: r) σ
    | _ => True
  | .ldiv => match st with
    | .inr (.inl y) :: .inr (.inl x) :: r => k (pc + 1) ls (.inr (.inl (x / y)) :: r) σ
    | _ => True
  | .lrem => match st with
    | .inr (.inl y) :: .inr (.inl x) :: r => k (pc + 1) ls (.inr (.inl (x - x / y * y)) :: r) σ
    | _ => True
  | .lshl => match st with
    | .inl y :: .inr (.inl x) :: r => k (pc + 1) ls (.inr (.inl (x <<< (y.toInt64 &&& 63))) :: r) σ
    | _ => True
  | .lshr => match st with
    | .inl y :: .inr (.inl x) :: r => k (pc + 1) ls (.inr (.inl (x >>> (y.toInt64 &&& 63))) :: r) σ
    | _ => True
  | .lushr => match st with
    | .inl y :: .inr (.inl x) :: r => k (pc + 1) ls (.inr (.inl ((x.toUInt64 >>> (y.toInt64.toUInt64 &&& Int64.toUInt64 63)).toInt64)) :: r) σ
    | _ => True
  | .lneg => match st with
    | .inr (.inl x) :: r => k (pc + 1) ls (.inr (.inl (-x)) :: r) σ
    | _ => True
  | .i2l => match st with
    | .inl x :: r => k (pc + 1) ls (.inr (.inl x.toInt64) :: r) σ
    | _ => True
  | .l2i => match st with
    | .inr (.inl x) :: r => k (pc + 1) ls (.inl x.toInt32 :: r) σ
    | _ => True
  | .i2b => match st with
    | .inl x :: r => k (pc + 1) ls (.inl x.toInt8.toInt32 :: r) σ
    | _ => True
  | .i2c => match st with
    | .inl x :: r => k (pc + 1) ls (.inl (x.toUInt32 % 65536).toInt32 :: r) σ
    | _ => True
  | .lcmp => match st with
    | .inr (.inl y) :: .inr (.inl x) :: r => k (pc + 1) ls (.inl (lg_cmp x y) :: r) σ
    | _ => True
  | .dup => match st with
    | .inl v :: r => k (pc + 1) ls (.inl v :: .inl v :: r) σ
    | .inr (.inr v) :: r => k (pc + 1) ls (.inr (.inr v) :: .inr (.inr v) :: r) σ
    | _ => True
  | .dup_x1 => match st with
    | .inl v :: .inr (.inr y) :: r => k (pc + 1) ls (.inl v :: .inr (.inr y) :: .inl v :: r) σ
    | .inr (.inr v) :: .inr (.inr y) :: r => k (pc + 1) ls (.inr (.inr v) :: .inr (.inr y) :: .inr (.inr v) :: r) σ
    | _ => True
  | .pop => match st with
    | .inl _ :: r => k (pc + 1) ls r σ
    | .inr (.inr _) :: r => k (pc + 1) ls r σ
    | _ => True
  | .pop2 => match st with
    | .inr (.inl _) :: r => k (pc + 1) ls r σ
    | _ => True
  | .ifCond c _ => match st with
    | .inl v :: r => (rcd c v 0 → K x.2.2.2.1 ls r σ) ∧ (rno c v 0 → k (pc + 3) ls r σ)
    | _ => True
  | .if_icmp c _ => match st with
    | .inl y :: .inl v :: r => (rcd c v y → K x.2.2.2.1 ls r σ) ∧ (rno c v y → k (pc + 3) ls r σ)
    | _ => True
  | .ifnull _ => match st with
    | .inr (.inr v) :: r => (v = none → K x.2.2.2.1 ls r σ) ∧ (∀ a, v = some a → k (pc + 3) ls r σ)
    | _ => True
  | .ifnonnull _ => match st with
    | .inr (.inr v) :: r => (∀ a, v = some a → K x.2.2.2.1 ls r σ) ∧ (v = none → k (pc + 3) ls r σ)
    | _ => True
  | .if_acmp c _ => match st with
    | .inr (.inr y) :: .inr (.inr v) :: r => (match c with
      | .eq => (v = y → K x.2.2.2.1 ls r σ) ∧ (¬ v = y → k (pc + 3) ls r σ)
      | .ne => (¬ v = y → K x.2.2.2.1 ls r σ) ∧ (v = y → k (pc + 3) ls r σ))
    | _ => True
  | .goto _ => K x.2.2.2.1 ls st σ
  | .tableswitch _ _ _ _ => match st with
    | .inl v :: r => rsw v.toInt x.2.2.2.2 x.2.2.2.1 (fun t => K t ls r σ)
    | _ => True
  | .lookupswitch _ _ => match st with
    | .inl v :: r => rsw v.toInt x.2.2.2.2 x.2.2.2.1 (fun t => K t ls r σ)
    | _ => True
  | .ireturn => match st with
    | [.inl v] => Z (some (.inl v)) σ
    | _ => True
  | .lreturn => match st with
    | [.inr (.inl v)] => Z (some (.inr (.inl v))) σ
    | _ => True
  | .areturn => match st with
    | [.inr (.inr v)] => Z (some (.inr (.inr v))) σ
    | _ => True
  | .return_ => match st with
    | [] => ∀ τ, WeC σ τ → Z none τ
    | _ => True
  | .getfield _ => match st with
    | .inr (.inr v) :: r => ∀ a, v = some a → ObC σ a (x.2.2.2.1 / 30) → k (pc + 3) ls (gtC σ a x.2.2.2.1 :: r) σ
    | _ => True
  | .putfield _ => match st with
    | .inl w :: .inr (.inr v) :: r => ∀ a, v = some a → ObC σ a (x.2.2.2.1 / 30) → (fkC x.2.2.2.1 = 0 ∨ (fkC x.2.2.2.1 = 1 ∧ (w = 0 ∨ w = 1))) → k (pc + 3) ls r (pIC σ a x.2.2.2.1 w)
    | .inr (.inl w) :: .inr (.inr v) :: r => ∀ a, v = some a → ObC σ a (x.2.2.2.1 / 30) → fkC x.2.2.2.1 = 2 → k (pc + 3) ls r (pLC σ a x.2.2.2.1 w)
    | .inr (.inr w) :: .inr (.inr v) :: r => ∀ a, v = some a → ObC σ a (x.2.2.2.1 / 30) → fkC x.2.2.2.1 = 3 → k (pc + 3) ls r (pRC σ a x.2.2.2.1 w)
    | _ => True
  | .baload => match st with
    | .inl j :: .inr (.inr v) :: r => ∀ a, v = some a → RwC σ a 101 → vp_in j (alC σ a) → k (pc + 1) ls (.inl (eIC σ a j.toNatClampNeg) :: r) σ
    | _ => True
  | .laload => match st with
    | .inl j :: .inr (.inr v) :: r => ∀ a, v = some a → RwC σ a 102 → vp_in j (alC σ a) → k (pc + 1) ls (.inr (.inl (eLC σ a j.toNatClampNeg)) :: r) σ
    | _ => True
  | .iaload => match st with
    | .inl j :: .inr (.inr v) :: r => ∀ a, v = some a → (RwC σ a 100 → vp_in j (alC σ a) → k (pc + 1) ls (.inl (eIC σ a j.toNatClampNeg) :: r) σ) ∧ (a = 1000001 → vp_in j 43 → k (pc + 1) ls (.inl (stvC.getD j.toNatClampNeg 0) :: r) σ) ∧ (a = 1000002 → vp_in j 11 → k (pc + 1) ls (.inl (opvC.getD j.toNatClampNeg 0) :: r) σ)
    | _ => True
  | .aaload => match st with
    | .inl j :: .inr (.inr v) :: r => ∀ a t, v = some a → RwC σ a t → (t = 103 ∨ t = 104 ∨ t = 105) → vp_in j (alC σ a) → k (pc + 1) ls (.inr (.inr (eRC σ a j.toNatClampNeg)) :: r) σ
    | _ => True
  | .iastore => match st with
    | .inl w :: .inl j :: .inr (.inr v) :: r => ∀ a, v = some a → RwC σ a 100 → vp_in j (alC σ a) → k (pc + 1) ls r (qIC σ a (upd (eIC σ a) j.toNatClampNeg w))
    | _ => True
  | .bastore => match st with
    | .inl w :: .inl j :: .inr (.inr v) :: r => ∀ a, v = some a → RwC σ a 101 → vp_in j (alC σ a) → k (pc + 1) ls r (qIC σ a (upd (eIC σ a) j.toNatClampNeg (vp_nar .byte w)))
    | _ => True
  | .lastore => match st with
    | .inr (.inl w) :: .inl j :: .inr (.inr v) :: r => ∀ a, v = some a → RwC σ a 102 → vp_in j (alC σ a) → k (pc + 1) ls r (qLC σ a (vp_updL (eLC σ a) j.toNatClampNeg w))
    | _ => True
  | .aastore => match st with
    | .inr (.inr w) :: .inl j :: .inr (.inr v) :: r => ∀ a t, v = some a → RwC σ a t → (t = 103 ∨ t = 104 ∨ t = 105) → vp_in j (alC σ a) → hoC σ t w → k (pc + 1) ls r (qRC σ a (va_up (eRC σ a) j.toNatClampNeg w))
    | _ => True
  | .arraylength => match st with
    | .inr (.inr v) :: r => ∀ a, v = some a → (a < cnC σ → 100 ≤ tgC σ a → tgC σ a ≤ 105 → alC σ a < 2147483648 → k (pc + 1) ls (.inl (nI (alC σ a)) :: r) σ) ∧ (∀ n, ((a = 1000000 ∧ n = 0) ∨ (a = 1000001 ∧ n = 43) ∨ (a = 1000002 ∧ n = 11)) → k (pc + 1) ls (.inl (nI n) :: r) σ)
    | _ => True
  | .newarray _ => match st with
    | .inl n :: r => 0 ≤ n → n ≤ 1000000 → k (pc + 2) ls (.inr (.inr (some (cnC σ))) :: r) (nAC σ x.2.2.2.1 n.toNatClampNeg x.2.2.1.toNat)
    | _ => True
  | .anewarray _ => match st with
    | .inl n :: r => 0 ≤ n → n ≤ 1000000 → k (pc + 3) ls (.inr (.inr (some (cnC σ))) :: r) (nAC σ x.2.2.2.1 n.toNatClampNeg x.2.2.1.toNat)
    | _ => True
  | .new _ => k (pc + 3) ls (.inr (.inr (some (cnC σ))) :: st) (nOC σ (x.2.2.2.1 + 50) (nfC x.2.2.2.1) x.2.2.1.toNat)
  | .checkcast _ => match st with
    | .inr (.inr none) :: r => k (pc + 3) ls (.inr (.inr none) :: r) σ
    | .inr (.inr (some a)) :: r => ObC σ a x.2.2.2.1 → k (pc + 3) ls (.inr (.inr (some a)) :: r) σ
    | _ => True
  | .getstatic _ => k (pc + 3) ls (.inr (.inr (some x.2.2.2.1)) :: st) σ
  | .invokevirtual _ => match Nat.beq x.2.2.2.1 9998 with
    | true => (match st with
      | .inr (.inr v) :: r => ∀ a, v = some a → RwC σ a 103 → k (pc + 3) ls (.inr (.inr (some 1000011)) :: r) σ
      | _ => True)
    | false => match ctC c1 x.2.2.2.1 with
      | some (_, Q) => (match st.drop x.2.2.1.toNat with
        | .inr (.inr (some a)) :: r => ∀ w τ, Q (.inr (.inr (some a)) :: (st.take x.2.2.1.toNat).reverse) σ w τ → uqC ct x.2.2.2.1 (.inr (.inr (some a)) :: (st.take x.2.2.1.toNat).reverse) σ w τ → k (pc + 3) ls (w.toList ++ r) τ
        | _ => True)
      | none => True
  | .invokespecial _ => match Nat.beq x.2.2.2.1 9999 with
    | true => (match st with
      | .inr (.inr (some _)) :: r => k (pc + 3) ls r σ
      | _ => True)
    | false => match ctC c1 x.2.2.2.1 with
      | some (_, Q) => (match st.drop x.2.2.1.toNat with
        | .inr (.inr (some a)) :: r => ∀ w τ, Q (.inr (.inr (some a)) :: (st.take x.2.2.1.toNat).reverse) σ w τ → uqC ct x.2.2.2.1 (.inr (.inr (some a)) :: (st.take x.2.2.1.toNat).reverse) σ w τ → k (pc + 3) ls (w.toList ++ r) τ
        | _ => True)
      | none => True
  | .invokestatic _ => match Nat.ble 9990 x.2.2.2.1 with
    | true => (match Nat.beq x.2.2.2.1 9997 with
      | true => (match st with
        | .inl n :: .inl dp :: .inr (.inr w) :: .inl sp :: .inr (.inr v) :: r => ∀ a b, v = some a → w = some b → RwC σ a 103 → RwC σ b 103 → k (pc + 3) ls r (qRC σ b (va_cpy (eRC σ a) (eRC σ b) sp.toNatClampNeg dp.toNatClampNeg n.toNatClampNeg))
        | _ => True)
      | false => (match Nat.beq x.2.2.2.1 9996 with
        | true => (match st with
          | .inl y :: .inl v :: r => k (pc + 3) ls (.inl (if y < v then y else v) :: r) σ
          | _ => True)
        | false => (match st with
          | .inl y :: .inl v :: r => k (pc + 3) ls (.inl (if v < y then y else v) :: r) σ
          | _ => True)))
    | false => match ctC c1 x.2.2.2.1 with
      | some (_, Q) => ∀ w τ, Q (st.take x.2.2.1.toNat).reverse σ w τ → uqC ct x.2.2.2.1 (st.take x.2.2.1.toNat).reverse σ w τ → k (pc + 3) ls (w.toList ++ st.drop x.2.2.1.toNat) τ
      | none => True
  | _ => True
theorem cst_uc {ι : Type} {c1 : CcC} {c2 : UcC} {K1 K k1 k : CkC} {K2 k2 : ι → CkC} {Z1 Z : Option AvC → CsC → Prop} {Z2 : ι → Option AvC → CsC → Prop} {x : RI} {pc : Nat} {ls m : ClC} {st : List AvC} {σ : CsC} (hu : UqC m) (hs : ∀ q ∈ ls, q ∈ m) (hK : ∀ t r, K1 t ls r σ → (∀ n, K2 n t m r σ) → K t m r σ) (hZ : ∀ w τ, Z1 w τ → (∀ n, Z2 n w τ) → Z w τ) (hk : ∀ pc ls m st σ, UqC m → (∀ q ∈ ls, q ∈ m) → k1 pc ls st σ → (∀ n, k2 n pc m st σ) → k pc m st σ) (h1 : cstC c1 K1 Z1 x pc ls st σ k1) (h2 : ∀ n, ucsC c1 c2 (K2 n) (Z2 n) x pc m st σ (k2 n)) : cstC (uc2C c1 c2) K Z x pc m st σ k := by
  obtain ⟨x1, len, q1, q2, cs⟩ := x
  cases x1 with
  | iconst n =>
    dsimp only [cstC] at h1 ⊢
    dsimp only [ucsC] at h2
    exact hk _ _ _ _ _ hu hs h1 h2
  | bipush n =>
    dsimp only [cstC] at h1 ⊢
    dsimp only [ucsC] at h2
    exact hk _ _ _ _ _ hu hs h1 h2
  | sipush n =>
    dsimp only [cstC] at h1 ⊢
    dsimp only [ucsC] at h2
    exact hk _ _ _ _ _ hu hs h1 h2
  | lconst n =>
    dsimp only [cstC] at h1 ⊢
    dsimp only [ucsC] at h2
    exact hk _ _ _ _ _ hu hs h1 h2
  | ldc2_w a0 =>
    dsimp only [cstC] at h1 ⊢
    dsimp only [ucsC] at h2
    exact hk _ _ _ _ _ hu hs h1 h2
  | aconst_null =>
    dsimp only [cstC] at h1 ⊢
    dsimp only [ucsC] at h2
    exact hk _ _ _ _ _ hu hs h1 h2
  | ldc a0 =>
    dsimp only [cstC] at h1 ⊢
    dsimp only [ucsC] at h2
    cases hb : Nat.beq q2 0 with
    | true => rw [hb] at h1 h2; exact hk _ _ _ _ _ hu hs h1 h2
    | false => rw [hb] at h1 h2; exact hk _ _ _ _ _ hu hs h1 h2
  | iload_n a0 =>
    dsimp only [cstC] at h1 ⊢
    dsimp only [ucsC] at h2
    split at h1
    next v hl =>
      have e := hu.lk hs hl
      rw [e]
      simp only [e] at h2
      exact hk _ _ _ _ _ hu hs h1 h2
    next => exact h1.elim
  | iload n =>
    dsimp only [cstC] at h1 ⊢
    dsimp only [ucsC] at h2
    split at h1
    next v hl =>
      have e := hu.lk hs hl
      rw [e]
      simp only [e] at h2
      exact hk _ _ _ _ _ hu hs h1 h2
    next => exact h1.elim
  | lload_n a0 =>
    dsimp only [cstC] at h1 ⊢
    dsimp only [ucsC] at h2
    split at h1
    next v hl =>
      have e := hu.lk hs hl
      rw [e]
      simp only [e] at h2
      exact hk _ _ _ _ _ hu hs h1 h2
    next => exact h1.elim
  | lload n =>
    dsimp only [cstC] at h1 ⊢
    dsimp only [ucsC] at h2
    split at h1
    next v hl =>
      have e := hu.lk hs hl
      rw [e]
      simp only [e] at h2
      exact hk _ _ _ _ _ hu hs h1 h2
    next => exact h1.elim
  | aload_n a0 =>
    dsimp only [cstC] at h1 ⊢
    dsimp only [ucsC] at h2
    split at h1
    next v hl =>
      have e := hu.lk hs hl
      rw [e]
      simp only [e] at h2
      exact hk _ _ _ _ _ hu hs h1 h2
    next => exact h1.elim
  | aload n =>
    dsimp only [cstC] at h1 ⊢
    dsimp only [ucsC] at h2
    split at h1
    next v hl =>
      have e := hu.lk hs hl
      rw [e]
      simp only [e] at h2
      exact hk _ _ _ _ _ hu hs h1 h2
    next => exact h1.elim
  | istore_n a0 =>
    dsimp only [cstC] at h1 ⊢
    dsimp only [ucsC] at h2
    split at h1
    next v r => exact hk _ _ _ _ _ hu.r1 (s1C_sub hs) h1 h2
    next => exact h1.elim
  | istore n =>
    dsimp only [cstC] at h1 ⊢
    dsimp only [ucsC] at h2
    split at h1
    next v r => exact hk _ _ _ _ _ hu.r1 (s1C_sub hs) h1 h2
    next => exact h1.elim
  | lstore_n a0 =>
    dsimp only [cstC] at h1 ⊢
    dsimp only [ucsC] at h2
    split at h1
    next v r => exact hk _ _ _ _ _ hu.r2 (s2C_sub hs) h1 h2
    next => exact h1.elim
  | lstore n =>
    dsimp only [cstC] at h1 ⊢
    dsimp only [ucsC] at h2
    split at h1
    next v r => exact hk _ _ _ _ _ hu.r2 (s2C_sub hs) h1 h2
    next => exact h1.elim
  | astore_n a0 =>
    dsimp only [cstC] at h1 ⊢
    dsimp only [ucsC] at h2
    split at h1
    next v r => exact hk _ _ _ _ _ hu.r1 (s1C_sub hs) h1 h2
    next => exact h1.elim
  | astore n =>
    dsimp only [cstC] at h1 ⊢
    dsimp only [ucsC] at h2
    split at h1
    next v r => exact hk _ _ _ _ _ hu.r1 (s1C_sub hs) h1 h2
    next => exact h1.elim
  | iinc n d =>
    dsimp only [cstC] at h1 ⊢
    dsimp only [ucsC] at h2
    split at h1
    next v hl =>
      have e := hu.lk hs hl
      rw [e]
      simp only [e] at h2
      exact hk _ _ _ _ _ hu.r1 (s1C_sub hs) h1 h2
    next => exact h1.elim
  | iadd =>
    dsimp only [cstC] at h1 ⊢
    dsimp only [ucsC] at h2
    split at h1
    next => exact hk _ _ _ _ _ hu hs h1 h2
    next => exact h1.elim
  | isub =>
    dsimp only [cstC] at h1 ⊢
    dsimp only [ucsC] at h2
    split at h1
    next => exact hk _ _ _ _ _ hu hs h1 h2
    next => exact h1.elim
  | iand =>
    dsimp only [cstC] at h1 ⊢
    dsimp only [ucsC] at h2
    split at h1
    next => exact hk _ _ _ _ _ hu hs h1 h2
    next => exact h1.elim
  | ior =>
    dsimp only [cstC] at h1 ⊢
    dsimp only [ucsC] at h2
    split at h1
    next => exact hk _ _ _ _ _ hu hs h1 h2
    next => exact h1.elim
  | ishr =>
    dsimp only [cstC] at h1 ⊢
    dsimp only [ucsC] at h2
    split at h1
    next => exact hk _ _ _ _ _ hu hs h1 h2
    next => exact h1.elim
  | imul =>
    dsimp only [cstC] at h1 ⊢
    dsimp only [ucsC] at h2
    split at h1
    next => exact hk _ _ _ _ _ hu hs h1 h2
    next => exact h1.elim
  | ishl =>
    dsimp only [cstC] at h1 ⊢
    dsimp only [ucsC] at h2
    split at h1
    next => exact hk _ _ _ _ _ hu hs h1 h2
    next => exact h1.elim
  | iushr =>
    dsimp only [cstC] at h1 ⊢
    dsimp only [ucsC] at h2
    split at h1
    next => exact hk _ _ _ _ _ hu hs h1 h2
    next => exact h1.elim
  | irem =>
    dsimp only [cstC] at h1 ⊢
    dsimp only [ucsC] at h2
    split at h1
    next => exact ⟨h1.1, hk _ _ _ _ _ hu hs h1.2 h2⟩
    next => exact h1.elim
  | ladd =>
    dsimp only [cstC] at h1 ⊢
    dsimp only [ucsC] at h2
    split at h1
    next => exact hk _ _ _ _ _ hu hs h1 h2
    next => exact h1.elim
  | lsub =>
    dsimp only [cstC] at h1 ⊢
    dsimp only [ucsC] at h2
    split at h1
    next => exact hk _ _ _ _ _ hu hs h1 h2
    next => exact h1.elim
  | lmul =>
    dsimp only [cstC] at h1 ⊢
    dsimp only [ucsC] at h2
    split at h1
    next => exact hk _ _ _ _ _ hu hs h1 h2
    next => exact h1.elim
  | land =>
    dsimp only [cstC] at h1 ⊢
    dsimp only [ucsC] at h2
    split at h1
    next => exact hk _ _ _ _ _ hu hs h1 h2
    next => exact h1.elim
  | lor =>
    dsimp only [cstC] at h1 ⊢
    dsimp only [ucsC] at h2
    split at h1
    next => exact hk _ _ _ _ _ hu hs h1 h2
    next => exact h1.elim
  | lxor =>
    dsimp only [cstC] at h1 ⊢
    dsimp only [ucsC] at h2
    split at h1
    next => exact hk _ _ _ _ _ hu hs h1 h2
    next => exact h1.elim
  | ldiv =>
    dsimp only [cstC] at h1 ⊢
    dsimp only [ucsC] at h2
    split at h1
    next => exact ⟨h1.1, hk _ _ _ _ _ hu hs h1.2 h2⟩
    next => exact h1.elim
  | lrem =>
    dsimp only [cstC] at h1 ⊢
    dsimp only [ucsC] at h2
    split at h1
    next => exact ⟨h1.1, hk _ _ _ _ _ hu hs h1.2 h2⟩
    next => exact h1.elim
  | lshl =>
    dsimp only [cstC] at h1 ⊢
    dsimp only [ucsC] at h2
    split at h1
    next => exact hk _ _ _ _ _ hu hs h1 h2
    next => exact h1.elim
  | lshr =>
    dsimp only [cstC] at h1 ⊢
    dsimp only [ucsC] at h2
    split at h1
    next => exact hk _ _ _ _ _ hu hs h1 h2
    next => exact h1.elim
  | lushr =>
    dsimp only [cstC] at h1 ⊢
    dsimp only [ucsC] at h2
    split at h1
    next => exact hk _ _ _ _ _ hu hs h1 h2
    next => exact h1.elim
  | lneg =>
    dsimp only [cstC] at h1 ⊢
    dsimp only [ucsC] at h2
    split at h1
    next => exact hk _ _ _ _ _ hu hs h1 h2
    next => exact h1.elim
  | i2l =>
    dsimp only [cstC] at h1 ⊢
    dsimp only [ucsC] at h2
    split at h1
    next => exact hk _ _ _ _ _ hu hs h1 h2
    next => exact h1.elim
  | l2i =>
    dsimp only [cstC] at h1 ⊢
    dsimp only [ucsC] at h2
    split at h1
    next => exact hk _ _ _ _ _ hu hs h1 h2
    next => exact h1.elim
  | i2b =>
    dsimp only [cstC] at h1 ⊢
    dsimp only [ucsC] at h2
    split at h1
    next => exact hk _ _ _ _ _ hu hs h1 h2
    next => exact h1.elim
  | i2c =>
    dsimp only [cstC] at h1 ⊢
    dsimp only [ucsC] at h2
    split at h1
    next => exact hk _ _ _ _ _ hu hs h1 h2
    next => exact h1.elim
  | lcmp =>
    dsimp only [cstC] at h1 ⊢
    dsimp only [ucsC] at h2
    split at h1
    next => exact hk _ _ _ _ _ hu hs h1 h2
    next => exact h1.elim
  | dup =>
    dsimp only [cstC] at h1 ⊢
    dsimp only [ucsC] at h2
    split at h1
    next => exact hk _ _ _ _ _ hu hs h1 h2
    next => exact hk _ _ _ _ _ hu hs h1 h2
    next => exact h1.elim
  | dup_x1 =>
    dsimp only [cstC] at h1 ⊢
    dsimp only [ucsC] at h2
    split at h1
    next => exact hk _ _ _ _ _ hu hs h1 h2
    next => exact hk _ _ _ _ _ hu hs h1 h2
    next => exact h1.elim
  | pop =>
    dsimp only [cstC] at h1 ⊢
    dsimp only [ucsC] at h2
    split at h1
    next => exact hk _ _ _ _ _ hu hs h1 h2
    next => exact hk _ _ _ _ _ hu hs h1 h2
    next => exact h1.elim
  | pop2 =>
    dsimp only [cstC] at h1 ⊢
    dsimp only [ucsC] at h2
    split at h1
    next => exact hk _ _ _ _ _ hu hs h1 h2
    next => exact h1.elim
  | ifCond c a1 =>
    dsimp only [cstC] at h1 ⊢
    dsimp only [ucsC] at h2
    split at h1
    next => exact ⟨fun q => hK _ _ (h1.1 q) (fun n => (h2 n).1 q), fun q => hk _ _ _ _ _ hu hs (h1.2 q) (fun n => (h2 n).2 q)⟩
    next => exact h1.elim
  | if_icmp c a1 =>
    dsimp only [cstC] at h1 ⊢
    dsimp only [ucsC] at h2
    split at h1
    next => exact ⟨fun q => hK _ _ (h1.1 q) (fun n => (h2 n).1 q), fun q => hk _ _ _ _ _ hu hs (h1.2 q) (fun n => (h2 n).2 q)⟩
    next => exact h1.elim
  | ifnull a0 =>
    dsimp only [cstC] at h1 ⊢
    dsimp only [ucsC] at h2
    split at h1
    next => exact ⟨fun q => hK _ _ (h1.1 q) (fun n => (h2 n).1 q), fun a q => hk _ _ _ _ _ hu hs (h1.2 a q) (fun n => (h2 n).2 a q)⟩
    next => exact h1.elim
  | ifnonnull a0 =>
    dsimp only [cstC] at h1 ⊢
    dsimp only [ucsC] at h2
    split at h1
    next => exact ⟨fun a q => hK _ _ (h1.1 a q) (fun n => (h2 n).1 a q), fun q => hk _ _ _ _ _ hu hs (h1.2 q) (fun n => (h2 n).2 q)⟩
    next => exact h1.elim
  | if_acmp c a1 =>
    dsimp only [cstC] at h1 ⊢
    dsimp only [ucsC] at h2
    split at h1
    next =>
      cases c with
      | eq => exact ⟨⟨fun q => hK _ _ (h1.1.1 q) (fun n => (h2 n).1 q), fun q => hk _ _ _ _ _ hu hs (h1.1.2 q) (fun n => (h2 n).2 q)⟩, h1.2⟩
      | ne => exact ⟨⟨fun q => hK _ _ (h1.1.1 q) (fun n => (h2 n).1 q), fun q => hk _ _ _ _ _ hu hs (h1.1.2 q) (fun n => (h2 n).2 q)⟩, h1.2⟩
    next => exact h1.elim
  | goto a0 =>
    dsimp only [cstC] at h1 ⊢
    dsimp only [ucsC] at h2
    exact hK _ _ h1 h2
  | tableswitch a0 a1 a2 a3 =>
    dsimp only [cstC] at h1 ⊢
    dsimp only [ucsC] at h2
    split at h1
    next => exact rsw_2 h1 h2 (fun t a b => hK _ _ a b)
    next => exact h1.elim
  | lookupswitch a0 a1 =>
    dsimp only [cstC] at h1 ⊢
    dsimp only [ucsC] at h2
    split at h1
    next => exact rsw_2 h1 h2 (fun t a b => hK _ _ a b)
    next => exact h1.elim
  | ireturn =>
    dsimp only [cstC] at h1 ⊢
    dsimp only [ucsC] at h2
    split at h1
    next => exact ⟨h1.1, hZ _ _ h1.2 h2⟩
    next => exact h1.elim
  | lreturn =>
    dsimp only [cstC] at h1 ⊢
    dsimp only [ucsC] at h2
    split at h1
    next => exact hZ _ _ h1 h2
    next => exact h1.elim
  | areturn =>
    dsimp only [cstC] at h1 ⊢
    dsimp only [ucsC] at h2
    split at h1
    next => exact hZ _ _ h1 h2
    next => exact h1.elim
  | return_ =>
    dsimp only [cstC] at h1 ⊢
    dsimp only [ucsC] at h2
    split at h1
    next => obtain ⟨τ, a, b⟩ := h1; exact ⟨τ, a, hZ _ _ b ((fun n => h2 n τ a))⟩
    next => exact h1.elim
  | getfield a0 =>
    dsimp only [cstC] at h1 ⊢
    dsimp only [ucsC] at h2
    split at h1
    next => obtain ⟨a, rfl, p1, b⟩ := h1; exact ⟨a, rfl, p1, hk _ _ _ _ _ hu hs b (fun n => h2 n a rfl p1)⟩
    next => exact h1.elim
  | putfield a0 =>
    dsimp only [cstC] at h1 ⊢
    dsimp only [ucsC] at h2
    split at h1
    next => obtain ⟨a, rfl, p1, p2, b⟩ := h1; exact ⟨a, rfl, p1, p2, hk _ _ _ _ _ hu hs b (fun n => h2 n a rfl p1 p2)⟩
    next => obtain ⟨a, rfl, p1, p2, b⟩ := h1; exact ⟨a, rfl, p1, p2, hk _ _ _ _ _ hu hs b (fun n => h2 n a rfl p1 p2)⟩
    next => obtain ⟨a, rfl, p1, p2, b⟩ := h1; exact ⟨a, rfl, p1, p2, hk _ _ _ _ _ hu hs b (fun n => h2 n a rfl p1 p2)⟩
    next => exact h1.elim
  | baload =>
    dsimp only [cstC] at h1 ⊢
    dsimp only [ucsC] at h2
    split at h1
    next => obtain ⟨a, rfl, p1, p2, b⟩ := h1; exact ⟨a, rfl, p1, p2, hk _ _ _ _ _ hu hs b (fun n => h2 n a rfl p1 p2)⟩
    next => exact h1.elim
  | laload =>
    dsimp only [cstC] at h1 ⊢
    dsimp only [ucsC] at h2
    split at h1
    next => obtain ⟨a, rfl, p1, p2, b⟩ := h1; exact ⟨a, rfl, p1, p2, hk _ _ _ _ _ hu hs b (fun n => h2 n a rfl p1 p2)⟩
    next => exact h1.elim
  | iaload =>
    dsimp only [cstC] at h1 ⊢
    dsimp only [ucsC] at h2
    split at h1
    next =>
      obtain ⟨a, rfl, ⟨p1, p2, b⟩ | ⟨p1, p2, b⟩ | ⟨p1, p2, b⟩⟩ := h1
      · exact ⟨a, rfl, Or.inl ⟨p1, p2, hk _ _ _ _ _ hu hs b (fun n => (h2 n a rfl).1 p1 p2)⟩⟩
      · exact ⟨a, rfl, Or.inr (Or.inl ⟨p1, p2, hk _ _ _ _ _ hu hs b (fun n => (h2 n a rfl).2.1 p1 p2)⟩)⟩
      · exact ⟨a, rfl, Or.inr (Or.inr ⟨p1, p2, hk _ _ _ _ _ hu hs b (fun n => (h2 n a rfl).2.2 p1 p2)⟩)⟩
    next => exact h1.elim
  | aaload =>
    dsimp only [cstC] at h1 ⊢
    dsimp only [ucsC] at h2
    split at h1
    next => obtain ⟨a, t, rfl, p1, p2, p3, b⟩ := h1; exact ⟨a, t, rfl, p1, p2, p3, hk _ _ _ _ _ hu hs b (fun n => h2 n a t rfl p1 p2 p3)⟩
    next => exact h1.elim
  | iastore =>
    dsimp only [cstC] at h1 ⊢
    dsimp only [ucsC] at h2
    split at h1
    next => obtain ⟨a, rfl, p1, p2, b⟩ := h1; exact ⟨a, rfl, p1, p2, hk _ _ _ _ _ hu hs b (fun n => h2 n a rfl p1 p2)⟩
    next => exact h1.elim
  | bastore =>
    dsimp only [cstC] at h1 ⊢
    dsimp only [ucsC] at h2
    split at h1
    next => obtain ⟨a, rfl, p1, p2, b⟩ := h1; exact ⟨a, rfl, p1, p2, hk _ _ _ _ _ hu hs b (fun n => h2 n a rfl p1 p2)⟩
    next => exact h1.elim
  | lastore =>
    dsimp only [cstC] at h1 ⊢
    dsimp only [ucsC] at h2
    split at h1
    next => obtain ⟨a, rfl, p1, p2, b⟩ := h1; exact ⟨a, rfl, p1, p2, hk _ _ _ _ _ hu hs b (fun n => h2 n a rfl p1 p2)⟩
    next => exact h1.elim
  | aastore =>
    dsimp only [cstC] at h1 ⊢
    dsimp only [ucsC] at h2
    split at h1
    next => obtain ⟨a, t, rfl, p1, p2, p3, p4, b⟩ := h1; exact ⟨a, t, rfl, p1, p2, p3, p4, hk _ _ _ _ _ hu hs b (fun n => h2 n a t rfl p1 p2 p3 p4)⟩
    next => exact h1.elim
  | arraylength =>
    dsimp only [cstC] at h1 ⊢
    dsimp only [ucsC] at h2
    split at h1
    next =>
      obtain ⟨a, rfl, ⟨p1, p2, p3, p4, b⟩ | ⟨n, p1, b⟩⟩ := h1
      · exact ⟨a, rfl, Or.inl ⟨p1, p2, p3, p4, hk _ _ _ _ _ hu hs b (fun n => (h2 n a rfl).1 p1 p2 p3 p4)⟩⟩
      · exact ⟨a, rfl, Or.inr ⟨n, p1, hk _ _ _ _ _ hu hs b (fun i => (h2 i a rfl).2 n p1)⟩⟩
    next => exact h1.elim
  | newarray a0 =>
    dsimp only [cstC] at h1 ⊢
    dsimp only [ucsC] at h2
    split at h1
    next => exact ⟨h1.1, h1.2.1, h1.2.2.1, h1.2.2.2.1, hk _ _ _ _ _ hu hs h1.2.2.2.2 (fun n => h2 n h1.1 h1.2.1)⟩
    next => exact h1.elim
  | anewarray a0 =>
    dsimp only [cstC] at h1 ⊢
    dsimp only [ucsC] at h2
    split at h1
    next => exact ⟨h1.1, h1.2.1, h1.2.2.1, h1.2.2.2.1, hk _ _ _ _ _ hu hs h1.2.2.2.2 (fun n => h2 n h1.1 h1.2.1)⟩
    next => exact h1.elim
  | new a0 =>
    dsimp only [cstC] at h1 ⊢
    dsimp only [ucsC] at h2
    exact ⟨h1.1, h1.2.1, hk _ _ _ _ _ hu hs h1.2.2 h2⟩
  | checkcast a0 =>
    dsimp only [cstC] at h1 ⊢
    dsimp only [ucsC] at h2
    split at h1
    next => exact hk _ _ _ _ _ hu hs h1 h2
    next => exact ⟨h1.1, hk _ _ _ _ _ hu hs h1.2 (fun n => h2 n h1.1)⟩
    next => exact h1.elim
  | getstatic a0 =>
    dsimp only [cstC] at h1 ⊢
    dsimp only [ucsC] at h2
    exact hk _ _ _ _ _ hu hs h1 h2
  | invokevirtual a0 =>
    dsimp only [cstC] at h1 ⊢
    dsimp only [ucsC] at h2
    cases hb : Nat.beq q2 9998 with
    | true =>
      simp only [hb] at h1 h2 ⊢
      split at h1
      next => obtain ⟨a, rfl, p1, p2, b⟩ := h1; exact ⟨a, rfl, p1, p2, hk _ _ _ _ _ hu hs b (fun n => h2 n a rfl p1)⟩
      next => exact h1.elim
    | false =>
      simp only [hb] at h1 h2 ⊢
      split at h1
      next P Q hq =>
        obtain ⟨Q9, e9, f9⟩ := uc2_some (c2 := c2) hq
        rw [e9]
        dsimp only
        split at h1
        next a r hr =>
          simp only [hr, hq] at h2 ⊢
          exact ⟨h1.1, h1.2.1, h1.2.2.1, fun w τ q => hk _ _ _ _ _ hu hs (h1.2.2.2 w τ (f9 _ _ _ _ q).1) (fun n => h2 n w τ (f9 _ _ _ _ q).1 (f9 _ _ _ _ q).2)⟩
        next => exact h1.elim
      next => exact h1.elim
  | invokespecial a0 =>
    dsimp only [cstC] at h1 ⊢
    dsimp only [ucsC] at h2
    cases hb : Nat.beq q2 9999 with
    | true =>
      simp only [hb] at h1 h2 ⊢
      split at h1
      next => exact ⟨h1.1, hk _ _ _ _ _ hu hs h1.2 h2⟩
      next => exact h1.elim
    | false =>
      simp only [hb] at h1 h2 ⊢
      split at h1
      next P Q hq =>
        obtain ⟨Q9, e9, f9⟩ := uc2_some (c2 := c2) hq
        rw [e9]
        dsimp only
        split at h1
        next a r hr =>
          simp only [hr, hq] at h2 ⊢
          exact ⟨h1.1, h1.2.1, fun w τ q => hk _ _ _ _ _ hu hs (h1.2.2 w τ (f9 _ _ _ _ q).1) (fun n => h2 n w τ (f9 _ _ _ _ q).1 (f9 _ _ _ _ q).2)⟩
        next => exact h1.elim
      next => exact h1.elim
  | invokestatic a0 =>
    dsimp only [cstC] at h1 ⊢
    dsimp only [ucsC] at h2
    cases hb : Nat.ble 9990 q2 with
    | true =>
      simp only [hb] at h1 h2 ⊢
      cases hc : Nat.beq q2 9997 with
      | true =>
        simp only [hc] at h1 h2 ⊢
        split at h1
        next => obtain ⟨a, b, rfl, rfl, p1, p2, p3, p4, p5, p6, z⟩ := h1; exact ⟨a, b, rfl, rfl, p1, p2, p3, p4, p5, p6, hk _ _ _ _ _ hu hs z (fun n => h2 n a b rfl rfl p1 p2)⟩
        next => exact h1.elim
      | false =>
        simp only [hc] at h1 h2 ⊢
        cases hd : Nat.beq q2 9996 with
        | true =>
          simp only [hd] at h1 h2 ⊢
          split at h1
          next => exact ⟨h1.1, hk _ _ _ _ _ hu hs h1.2 h2⟩
          next => exact h1.elim
        | false =>
          simp only [hd] at h1 h2 ⊢
          split at h1
          next => exact ⟨h1.1, hk _ _ _ _ _ hu hs h1.2 h2⟩
          next => exact h1.elim
    | false =>
      simp only [hb] at h1 h2 ⊢
      split at h1
      next P Q hq =>
        obtain ⟨Q9, e9, f9⟩ := uc2_some (c2 := c2) hq
        rw [e9]
        simp only [hq] at h2
        exact ⟨h1.1, h1.2.1, h1.2.2.1, fun w τ q => hk _ _ _ _ _ hu hs (h1.2.2.2 w τ (f9 _ _ _ _ q).1) (fun n => h2 n w τ (f9 _ _ _ _ q).1 (f9 _ _ _ _ q).2)⟩
      next => exact h1.elim
  | _ => exact h1.elim
theorem ucs_sub {c1 : CcC} {c2 : UcC} {K K' k k' : CkC} {Z : Option AvC → CsC → Prop} {x : RI} {pc : Nat} {ls m : ClC} {st : List AvC} {σ : CsC} (hu : UqC m) (hs : ∀ q ∈ ls, q ∈ m) (hK : ∀ t r, K t ls r σ → K' t m r σ) (hk : ∀ pc ls m st σ, UqC m → (∀ q ∈ ls, q ∈ m) → k pc ls st σ → k' pc m st σ) (h : ucsC c1 c2 K Z x pc ls st σ k) : ucsC c1 c2 K' Z x pc m st σ k' := by
  obtain ⟨x1, len, q1, q2, cs⟩ := x
  cases x1 with
  | iconst n =>
    dsimp only [ucsC] at h ⊢
    exact hk _ _ _ _ _ hu hs h
  | bipush n =>
    dsimp only [ucsC] at h ⊢
    exact hk _ _ _ _ _ hu hs h
  | sipush n =>
    dsimp only [ucsC] at h ⊢
    exact hk _ _ _ _ _ hu hs h
  | lconst n =>
    dsimp only [ucsC] at h ⊢
    exact hk _ _ _ _ _ hu hs h
  | ldc2_w a0 =>
    dsimp only [ucsC] at h ⊢
    exact hk _ _ _ _ _ hu hs h
  | aconst_null =>
    dsimp only [ucsC] at h ⊢
    exact hk _ _ _ _ _ hu hs h
  | ldc a0 =>
    dsimp only [ucsC] at h ⊢
    cases hb : Nat.beq q2 0 with
    | true => rw [hb] at h; exact hk _ _ _ _ _ hu hs h
    | false => rw [hb] at h; exact hk _ _ _ _ _ hu hs h
  | iload_n a0 =>
    dsimp only [ucsC] at h ⊢
    split at h
    next v hl =>
      rw [hu.lk hs hl]
      exact hk _ _ _ _ _ hu hs h
    next => exact h.elim
  | iload n =>
    dsimp only [ucsC] at h ⊢
    split at h
    next v hl =>
      rw [hu.lk hs hl]
      exact hk _ _ _ _ _ hu hs h
    next => exact h.elim
  | lload_n a0 =>
    dsimp only [ucsC] at h ⊢
    split at h
    next v hl =>
      rw [hu.lk hs hl]
      exact hk _ _ _ _ _ hu hs h
    next => exact h.elim
  | lload n =>
    dsimp only [ucsC] at h ⊢
    split at h
    next v hl =>
      rw [hu.lk hs hl]
      exact hk _ _ _ _ _ hu hs h
    next => exact h.elim
  | aload_n a0 =>
    dsimp only [ucsC] at h ⊢
    split at h
    next v hl =>
      rw [hu.lk hs hl]
      exact hk _ _ _ _ _ hu hs h
    next => exact h.elim
  | aload n =>
    dsimp only [ucsC] at h ⊢
    split at h
    next v hl =>
      rw [hu.lk hs hl]
      exact hk _ _ _ _ _ hu hs h
    next => exact h.elim
  | istore_n a0 =>
    dsimp only [ucsC] at h ⊢
    split at h
    next v r => exact hk _ _ _ _ _ hu.r1 (s1C_sub hs) h
    next => trivial
  | istore n =>
    dsimp only [ucsC] at h ⊢
    split at h
    next v r => exact hk _ _ _ _ _ hu.r1 (s1C_sub hs) h
    next => trivial
  | lstore_n a0 =>
    dsimp only [ucsC] at h ⊢
    split at h
    next v r => exact hk _ _ _ _ _ hu.r2 (s2C_sub hs) h
    next => trivial
  | lstore n =>
    dsimp only [ucsC] at h ⊢
    split at h
    next v r => exact hk _ _ _ _ _ hu.r2 (s2C_sub hs) h
    next => trivial
  | astore_n a0 =>
    dsimp only [ucsC] at h ⊢
    split at h
    next v r => exact hk _ _ _ _ _ hu.r1 (s1C_sub hs) h
    next => trivial
  | astore n =>
    dsimp only [ucsC] at h ⊢
    split at h
    next v r => exact hk _ _ _ _ _ hu.r1 (s1C_sub hs) h
    next => trivial
  | iinc n d =>
    dsimp only [ucsC] at h ⊢
    split at h
    next v hl =>
      rw [hu.lk hs hl]
      exact hk _ _ _ _ _ hu.r1 (s1C_sub hs) h
    next => exact h.elim
  | iadd =>
    dsimp only [ucsC] at h ⊢
    split at h
    next => exact hk _ _ _ _ _ hu hs h
    next => trivial
  | isub =>
    dsimp only [ucsC] at h ⊢
    split at h
    next => exact hk _ _ _ _ _ hu hs h
    next => trivial
  | iand =>
    dsimp only [ucsC] at h ⊢
    split at h
    next => exact hk _ _ _ _ _ hu hs h
    next => trivial
  | ior =>
    dsimp only [ucsC] at h ⊢
    split at h
    next => exact hk _ _ _ _ _ hu hs h
    next => trivial
  | ishr =>
    dsimp only [ucsC] at h ⊢
    split at h
    next => exact hk _ _ _ _ _ hu hs h
    next => trivial
  | imul =>
    dsimp only [ucsC] at h ⊢
    split at h
    next => exact hk _ _ _ _ _ hu hs h
    next => trivial
  | ishl =>
    dsimp only [ucsC] at h ⊢
    split at h
    next => exact hk _ _ _ _ _ hu hs h
    next => trivial
  | iushr =>
    dsimp only [ucsC] at h ⊢
    split at h
    next => exact hk _ _ _ _ _ hu hs h
    next => trivial
  | irem =>
    dsimp only [ucsC] at h ⊢
    split at h
    next => exact hk _ _ _ _ _ hu hs h
    next => trivial
  | ladd =>
    dsimp only [ucsC] at h ⊢
    split at h
    next => exact hk _ _ _ _ _ hu hs h
    next => trivial
  | lsub =>
    dsimp only [ucsC] at h ⊢
    split at h
    next => exact hk _ _ _ _ _ hu hs h
    next => trivial
  | lmul =>
    dsimp only [ucsC] at h ⊢
    split at h
    next => exact hk _ _ _ _ _ hu hs h
    next => trivial
  | land =>
    dsimp only [ucsC] at h ⊢
    split at h
    next => exact hk _ _ _ _ _ hu hs h
    next => trivial
  | lor =>
    dsimp only [ucsC] at h ⊢
    split at h
    next => exact hk _ _ _ _ _ hu hs h
    next => trivial
  | lxor =>
    dsimp only [ucsC] at h ⊢
    split at h
    next => exact hk _ _ _ _ _ hu hs h
    next => trivial
  | ldiv =>
    dsimp only [ucsC] at h ⊢
    split at h
    next => exact hk _ _ _ _ _ hu hs h
    next => trivial
  | lrem =>
    dsimp only [ucsC] at h ⊢
    split at h
    next => exact hk _ _ _ _ _ hu hs h
    next => trivial
  | lshl =>
    dsimp only [ucsC] at h ⊢
    split at h
    next => exact hk _ _ _ _ _ hu hs h
    next => trivial
  | lshr =>
    dsimp only [ucsC] at h ⊢
    split at h
    next => exact hk _ _ _ _ _ hu hs h
    next => trivial
  | lushr =>
    dsimp only [ucsC] at h ⊢
    split at h
    next => exact hk _ _ _ _ _ hu hs h
    next => trivial
  | lneg =>
    dsimp only [ucsC] at h ⊢
    split at h
    next => exact hk _ _ _ _ _ hu hs h
    next => trivial
  | i2l =>
    dsimp only [ucsC] at h ⊢
    split at h
    next => exact hk _ _ _ _ _ hu hs h
    next => trivial
  | l2i =>
    dsimp only [ucsC] at h ⊢
    split at h
    next => exact hk _ _ _ _ _ hu hs h
    next => trivial
  | i2b =>
    dsimp only [ucsC] at h ⊢
    split at h
    next => exact hk _ _ _ _ _ hu hs h
    next => trivial
  | i2c =>
    dsimp only [ucsC] at h ⊢
    split at h
    next => exact hk _ _ _ _ _ hu hs h
    next => trivial
  | lcmp =>
    dsimp only [ucsC] at h ⊢
    split at h
    next => exact hk _ _ _ _ _ hu hs h
    next => trivial
  | dup =>
    dsimp only [ucsC] at h ⊢
    split at h
    next => exact hk _ _ _ _ _ hu hs h
    next => exact hk _ _ _ _ _ hu hs h
    next => trivial
  | dup_x1 =>
    dsimp only [ucsC] at h ⊢
    split at h
    next => exact hk _ _ _ _ _ hu hs h
    next => exact hk _ _ _ _ _ hu hs h
    next => trivial
  | pop =>
    dsimp only [ucsC] at h ⊢
    split at h
    next => exact hk _ _ _ _ _ hu hs h
    next => exact hk _ _ _ _ _ hu hs h
    next => trivial
  | pop2 =>
    dsimp only [ucsC] at h ⊢
    split at h
    next => exact hk _ _ _ _ _ hu hs h
    next => trivial
  | ifCond c a1 =>
    dsimp only [ucsC] at h ⊢
    split at h
    next => exact ⟨fun q => hK _ _ (h.1 q), fun q => hk _ _ _ _ _ hu hs (h.2 q)⟩
    next => trivial
  | if_icmp c a1 =>
    dsimp only [ucsC] at h ⊢
    split at h
    next => exact ⟨fun q => hK _ _ (h.1 q), fun q => hk _ _ _ _ _ hu hs (h.2 q)⟩
    next => trivial
  | ifnull a0 =>
    dsimp only [ucsC] at h ⊢
    split at h
    next => exact ⟨fun q => hK _ _ (h.1 q), fun a q => hk _ _ _ _ _ hu hs (h.2 a q)⟩
    next => trivial
  | ifnonnull a0 =>
    dsimp only [ucsC] at h ⊢
    split at h
    next => exact ⟨fun a q => hK _ _ (h.1 a q), fun q => hk _ _ _ _ _ hu hs (h.2 q)⟩
    next => trivial
  | if_acmp c a1 =>
    dsimp only [ucsC] at h ⊢
    split at h
    next =>
      cases c with
      | eq => exact ⟨fun q => hK _ _ (h.1 q), fun q => hk _ _ _ _ _ hu hs (h.2 q)⟩
      | ne => exact ⟨fun q => hK _ _ (h.1 q), fun q => hk _ _ _ _ _ hu hs (h.2 q)⟩
    next => trivial
  | goto a0 =>
    dsimp only [ucsC] at h ⊢
    exact hK _ _ h
  | tableswitch a0 a1 a2 a3 =>
    dsimp only [ucsC] at h ⊢
    split at h
    next => exact rsw_1 h (fun t a => hK _ _ a)
    next => trivial
  | lookupswitch a0 a1 =>
    dsimp only [ucsC] at h ⊢
    split at h
    next => exact rsw_1 h (fun t a => hK _ _ a)
    next => trivial
  | ireturn =>
    dsimp only [ucsC] at h ⊢
    split at h
    next => exact h
    next => trivial
  | lreturn =>
    dsimp only [ucsC] at h ⊢
    split at h
    next => exact h
    next => trivial
  | areturn =>
    dsimp only [ucsC] at h ⊢
    split at h
    next => exact h
    next => trivial
  | return_ =>
    dsimp only [ucsC] at h ⊢
    split at h
    next => exact h
    next => trivial
  | getfield a0 =>
    dsimp only [ucsC] at h ⊢
    split at h
    next => exact fun a e p1 => hk _ _ _ _ _ hu hs (h a e p1)
    next => trivial
  | putfield a0 =>
    dsimp only [ucsC] at h ⊢
    split at h
    next => exact fun a e p1 p2 => hk _ _ _ _ _ hu hs (h a e p1 p2)
    next => exact fun a e p1 p2 => hk _ _ _ _ _ hu hs (h a e p1 p2)
    next => exact fun a e p1 p2 => hk _ _ _ _ _ hu hs (h a e p1 p2)
    next => trivial
  | baload =>
    dsimp only [ucsC] at h ⊢
    split at h
    next => exact fun a e p1 p2 => hk _ _ _ _ _ hu hs (h a e p1 p2)
    next => trivial
  | laload =>
    dsimp only [ucsC] at h ⊢
    split at h
    next => exact fun a e p1 p2 => hk _ _ _ _ _ hu hs (h a e p1 p2)
    next => trivial
  | iaload =>
    dsimp only [ucsC] at h ⊢
    split at h
    next => exact fun a e => ⟨fun p1 p2 => hk _ _ _ _ _ hu hs ((h a e).1 p1 p2), fun p1 p2 => hk _ _ _ _ _ hu hs ((h a e).2.1 p1 p2), fun p1 p2 => hk _ _ _ _ _ hu hs ((h a e).2.2 p1 p2)⟩
    next => trivial
  | aaload =>
    dsimp only [ucsC] at h ⊢
    split at h
    next => exact fun a t e p1 p2 p3 => hk _ _ _ _ _ hu hs (h a t e p1 p2 p3)
    next => trivial
  | iastore =>
    dsimp only [ucsC] at h ⊢
    split at h
    next => exact fun a e p1 p2 => hk _ _ _ _ _ hu hs (h a e p1 p2)
    next => trivial
  | bastore =>
    dsimp only [ucsC] at h ⊢
    split at h
    next => exact fun a e p1 p2 => hk _ _ _ _ _ hu hs (h a e p1 p2)
    next => trivial
  | lastore =>
    dsimp only [ucsC] at h ⊢
    split at h
    next => exact fun a e p1 p2 => hk _ _ _ _ _ hu hs (h a e p1 p2)
    next => trivial
  | aastore =>
    dsimp only [ucsC] at h ⊢
    split at h
    next => exact fun a t e p1 p2 p3 p4 => hk _ _ _ _ _ hu hs (h a t e p1 p2 p3 p4)
    next => trivial
  | arraylength =>
    dsimp only [ucsC] at h ⊢
    split at h
    next => exact fun a e => ⟨fun p1 p2 p3 p4 => hk _ _ _ _ _ hu hs ((h a e).1 p1 p2 p3 p4), fun n p1 => hk _ _ _ _ _ hu hs ((h a e).2 n p1)⟩
    next => trivial
  | newarray a0 =>
    dsimp only [ucsC] at h ⊢
    split at h
    next => exact fun p1 p2 => hk _ _ _ _ _ hu hs (h p1 p2)
    next => trivial
  | anewarray a0 =>
    dsimp only [ucsC] at h ⊢
    split at h
    next => exact fun p1 p2 => hk _ _ _ _ _ hu hs (h p1 p2)
    next => trivial
  | new a0 =>
    dsimp only [ucsC] at h ⊢
    exact hk _ _ _ _ _ hu hs h
  | checkcast a0 =>
    dsimp only [ucsC] at h ⊢
    split at h
    next => exact hk _ _ _ _ _ hu hs h
    next => exact fun p1 => hk _ _ _ _ _ hu hs (h p1)
    next => trivial
  | getstatic a0 =>
    dsimp only [ucsC] at h ⊢
    exact hk _ _ _ _ _ hu hs h
  | invokevirtual a0 =>
    dsimp only [ucsC] at h ⊢
    cases hb : Nat.beq q2 9998 with
    | true =>
      simp only [hb] at h ⊢
      split at h
      next => exact fun a e p1 => hk _ _ _ _ _ hu hs (h a e p1)
      next => trivial
    | false =>
      simp only [hb] at h ⊢
      cases hq : ctC c1 q2 with
      | none => trivial
      | some z =>
        obtain ⟨P, Q⟩ := z
        simp only [hq] at h ⊢
        split at h
        next => exact fun w τ q0 q => hk _ _ _ _ _ hu hs (h w τ q0 q)
        next => trivial
  | invokespecial a0 =>
    dsimp only [ucsC] at h ⊢
    cases hb : Nat.beq q2 9999 with
    | true =>
      simp only [hb] at h ⊢
      split at h
      next => exact hk _ _ _ _ _ hu hs h
      next => trivial
    | false =>
      simp only [hb] at h ⊢
      cases hq : ctC c1 q2 with
      | none => trivial
      | some z =>
        obtain ⟨P, Q⟩ := z
        simp only [hq] at h ⊢
        split at h
        next => exact fun w τ q0 q => hk _ _ _ _ _ hu hs (h w τ q0 q)
        next => trivial
  | invokestatic a0 =>
    dsimp only [ucsC] at h ⊢
    cases hb : Nat.ble 9990 q2 with
    | true =>
      simp only [hb] at h ⊢
      cases hc : Nat.beq q2 9997 with
      | true =>
        simp only [hc] at h ⊢
        split at h
        next => exact fun a b e1 e2 p1 p2 => hk _ _ _ _ _ hu hs (h a b e1 e2 p1 p2)
        next => trivial
      | false =>
        simp only [hc] at h ⊢
        cases hd : Nat.beq q2 9996 with
        | true =>
          simp only [hd] at h ⊢
          split at h
          next => exact hk _ _ _ _ _ hu hs h
          next => trivial
        | false =>
          simp only [hd] at h ⊢
          split at h
          next => exact hk _ _ _ _ _ hu hs h
          next => trivial
    | false =>
      simp only [hb] at h ⊢
      cases hq : ctC c1 q2 with
      | none => trivial
      | some z =>
        obtain ⟨P, Q⟩ := z
        simp only [hq] at h ⊢
        exact fun w τ q0 q => hk _ _ _ _ _ hu hs (h w τ q0 q)
  | _ => trivial
def ucwp (c1 : CcC) (ct : UcC) (K : CkC) (Z : Option AvC → CsC → Prop) : List RI → CkC
  | [], pc, ls, st, σ => K pc ls st σ
  | x :: is, pc, ls, st, σ => ucsC c1 ct K Z x pc ls st σ (ucwp c1 ct K Z is)
def ucgo (bs : RB) (c1 : CcC) (ct : UcC) (K : CkC) (Z : Option AvC → CsC → Prop) : CkC := fun pc ls st σ => match rfd bs pc with
  | some is => ucwp c1 ct K Z is pc ls st σ
  | none => True
theorem ucwp_sub {c1 : CcC} {c2 : UcC} {K K' : CkC} {Z : Option AvC → CsC → Prop} (hK : ∀ pc ls m st σ, UqC m → (∀ q ∈ ls, q ∈ m) → K pc ls st σ → K' pc m st σ) : ∀ (is : List RI) (pc : Nat) (ls m : ClC) (st : List AvC) (σ : CsC), UqC m → (∀ q ∈ ls, q ∈ m) → ucwp c1 c2 K Z is pc ls st σ → ucwp c1 c2 K' Z is pc m st σ := by
  intro is
  induction is with
  | nil => exact fun pc ls m st σ hu hs h => hK _ _ _ _ _ hu hs h
  | cons x is ih => exact fun pc ls m st σ hu hs h => ucs_sub hu hs (fun t r q => hK _ _ _ _ _ hu hs q) ih h
theorem cwp_uc {ι : Type} {c1 : CcC} {c2 : UcC} {K1 K : CkC} {K2 : ι → CkC} {Z1 Z : Option AvC → CsC → Prop} {Z2 : ι → Option AvC → CsC → Prop} (hK : ∀ pc ls m st σ, UqC m → (∀ q ∈ ls, q ∈ m) → K1 pc ls st σ → (∀ n, K2 n pc m st σ) → K pc m st σ) (hZ : ∀ w τ, Z1 w τ → (∀ n, Z2 n w τ) → Z w τ) : ∀ (is : List RI) (pc : Nat) (ls m : ClC) (st : List AvC) (σ : CsC), UqC m → (∀ q ∈ ls, q ∈ m) → cwpC c1 K1 Z1 is pc ls st σ → (∀ n, ucwp c1 c2 (K2 n) (Z2 n) is pc m st σ) → cwpC (uc2C c1 c2) K Z is pc m st σ := by
  intro is
  induction is with
  | nil => exact fun pc ls m st σ hu hs h1 h2 => hK _ _ _ _ _ hu hs h1 h2
  | cons x is ih => exact fun pc ls m st σ hu hs h1 h2 => cst_uc (k2 := fun n => ucwp c1 c2 (K2 n) (Z2 n) is) hu hs (fun t r a b => hK _ _ _ _ _ hu hs a b) hZ ih h1 h2
/-- a run of at most n blocks does as Z says -/
def uKm (bs : RB) (c1 : CcC) (ct : UcC) (Z : Option AvC → CsC → Prop) : Nat → CkC
  | 0 => fun _ _ _ _ => True
  | n + 1 => ucgo bs c1 ct (uKm bs c1 ct Z n) Z
abbrev TbC (bs : RB) (ct : CcC) (P : CpC) (Q : CqC) : Prop := ∀ (As : List AvC) (σ : CsC), P As σ → GrC σ σ → ∀ G : CkC, (∀ (pc : Nat) (ls : ClC) (st : List AvC) (τ : CsC), cgoC bs ct G (Q As σ) pc ls st τ → G pc ls st τ) → (∀ (pc : Nat) (ls ls' : ClC) (st : List AvC) (τ : CsC), (∀ q ∈ ls, q ∈ ls') → G pc ls st τ → G pc ls' st τ) → G 0 (agC 0 As) [] σ
abbrev PbC (bs : RB) (c1 : CcC) (ct : UcC) (P : CpC) (Q : CqC) : Prop := ∀ (As : List AvC) (σ : CsC), P As σ → ∀ K : Nat → CkC, (∀ (n pc : Nat) (ls : ClC) (st : List AvC) (τ : CsC), (∀ m, m < n → ucgo bs c1 ct (K m) (Q As σ) pc ls st τ) → K n pc ls st τ) → (∀ (n pc : Nat) (ls ls' : ClC) (st : List AvC) (τ : CsC), (∀ q ∈ ls, q ∈ ls') → K n pc ls st τ → K n pc ls' st τ) → ∀ n, K n 0 (agC 0 As) [] σ
/-- a partial body, as what each run of at most n blocks does -/
theorem PbC.km {bs : RB} {c1 : CcC} {c2 : UcC} {P : CpC} {Q2 : CqC} (b2 : PbC bs c1 c2 P Q2) {As : List AvC} {σ : CsC} (hP : P As σ) : ∀ n, uKm bs c1 c2 (Q2 As σ) n 0 (agC 0 As) [] σ := by
  intro n
  have := b2 As σ hP (fun n pc ls st τ => ∀ m, UqC m → (∀ q ∈ ls, q ∈ m) → ∀ j, j ≤ n → uKm bs c1 c2 (Q2 As σ) j pc m st τ) (fun n pc ls st τ h m hu hs j hj => by
    cases j with
    | zero => trivial
    | succ j =>
      have h9 := h j (by omega)
      show ucgo bs c1 c2 (uKm bs c1 c2 (Q2 As σ) j) (Q2 As σ) pc m st τ
      unfold ucgo at h9 ⊢
      cases hr : rfd bs pc with
      | none => trivial
      | some is =>
        rw [hr] at h9
        exact ucwp_sub (fun pc ls m st σ hu hs q => q m hu hs j (Nat.le_refl _)) is pc ls m st τ hu hs h9) (fun n pc ls ls' st τ hs h m hu hs' j hj => h m hu (fun q hq => hs' q (hs q hq)) j hj) n
  exact this _ (agC_uq As 0).1 (fun q hq => hq) n (Nat.le_refl _)
/-- a total body and partial ones of the same code are a total one of all -/
theorem TbC.and {Y : Type} {bs : RB} {c1 : CcC} {c2 : UcC} {P : CpC} {Q1 : CqC} {P2 : Y → CpC} {Q2 : Y → CqC} (b1 : TbC bs c1 P Q1) (b2 : ∀ y, PbC bs c1 c2 (fun As σ => P As σ ∧ P2 y As σ) (Q2 y)) : TbC bs (uc2C c1 c2) P (fun As σ w τ => Q1 As σ w τ ∧ ∀ y, P2 y As σ → Q2 y As σ w τ) := by
  intro As σ hP hg G hG hM
  have k2 : ∀ i : {y // P2 y As σ} × Nat, uKm bs c1 c2 (Q2 i.1.1 As σ) i.2 0 (agC 0 As) [] σ := fun i => (b2 i.1.1).km ⟨hP, i.1.2⟩ i.2
  refine b1 As σ hP hg (fun pc ls st τ => ∀ m, UqC m → (∀ q ∈ ls, q ∈ m) → (∀ i : {y // P2 y As σ} × Nat, uKm bs c1 c2 (Q2 i.1.1 As σ) i.2 pc m st τ) → G pc m st τ) (fun pc ls st τ h m hu hs h2 => hG pc m st τ ?_) (fun pc ls ls' st τ hs h m hu hs' h2 => h m hu (fun q hq => hs' q (hs q hq)) h2) _ (agC_uq As 0).1 (fun q hq => hq) k2
  unfold cgoC at h ⊢
  have h3 : ∀ i : {y // P2 y As σ} × Nat, ucgo bs c1 c2 (uKm bs c1 c2 (Q2 i.1.1 As σ) i.2) (Q2 i.1.1 As σ) pc m st τ := fun i => h2 (i.1, i.2 + 1)
  unfold ucgo at h3
  cases hr : rfd bs pc with
  | none => rw [hr] at h; exact h
  | some is =>
    rw [hr] at h
    simp only [hr] at h3
    exact cwp_uc (ι := {y // P2 y As σ} × Nat) (K2 := fun i => uKm bs c1 c2 (Q2 i.1.1 As σ) i.2) (Z2 := fun i => Q2 i.1.1 As σ) (fun pc ls m st σ hu hs a b => a m hu hs b) (fun w τ a b => ⟨a, fun y hy => b (⟨y, hy⟩, 0)⟩) is pc ls m st τ hu hs h h3

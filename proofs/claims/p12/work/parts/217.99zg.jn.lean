/-! two runs side by side -/
abbrev JK : Type := Nat → RL → RL → List Value → List Value → RS → RS → Prop
abbrev JZ : Type := Option Value → RS → Option Value → RS → Prop
abbrev JPr : Type := List Value → List Value → RS → RS → Prop
abbrev JQr : Type := List Value → List Value → RS → RS → JZ
abbrev JC : Type := List (Nat × JPr × JQr)
def jct (jc : JC) (μ : Nat) : Option (JPr × JQr) := match jc with
  | [] => none
  | q :: r => match Nat.beq q.1 μ with
    | true => some q.2
    | false => jct r μ
def jst (jc : JC) (K : JK) (Z : JZ) (x : RI) (pc : Nat) (l1 l2 : RL) (s1 s2 : List Value) (σ ρ : RS) (k : JK) : Prop :=
  match x.1 with
  | .iconst n => k (pc + 1) l1 l2 (.int (Int32.ofInt n) :: s1) (.int (Int32.ofInt n) :: s2) σ ρ
  | .bipush n => k (pc + 2) l1 l2 (.int (Int32.ofInt n) :: s1) (.int (Int32.ofInt n) :: s2) σ ρ
  | .sipush n => k (pc + 3) l1 l2 (.int (Int32.ofInt n) :: s1) (.int (Int32.ofInt n) :: s2) σ ρ
  | .lconst n => k (pc + 1) l1 l2 (.long (Int64.ofNat (n : Nat)) :: s1) (.long (Int64.ofNat (n : Nat)) :: s2) σ ρ
  | .ldc2_w _ => k (pc + 3) l1 l2 (.long (Int64.ofInt x.2.2.1) :: s1) (.long (Int64.ofInt x.2.2.1) :: s2) σ ρ
  | .iload_n _ => match rlk l1 x.2.2.2.1, rlk l2 x.2.2.2.1 with
    | some (.int v), some (.int v') => k (pc + 1) l1 l2 (.int v :: s1) (.int v' :: s2) σ ρ
    | _, _ => False
  | .iload n => match rlk l1 n, rlk l2 n with
    | some (.int v), some (.int v') => k (pc + 2) l1 l2 (.int v :: s1) (.int v' :: s2) σ ρ
    | _, _ => False
  | .lload_n _ => match rlk l1 x.2.2.2.1, rlk l2 x.2.2.2.1 with
    | some (.long v), some (.long v') => k (pc + 1) l1 l2 (.long v :: s1) (.long v' :: s2) σ ρ
    | _, _ => False
  | .aload_n _ => match rlk l1 x.2.2.2.1, rlk l2 x.2.2.2.1 with
    | some (.ref v), some (.ref v') => k (pc + 1) l1 l2 (.ref v :: s1) (.ref v' :: s2) σ ρ
    | _, _ => False
  | .iinc n d => match rlk l1 n, rlk l2 n with
    | some (.int v), some (.int v') => k (pc + 3) (rs1 l1 n (.int (v + Int32.ofInt d))) (rs1 l2 n (.int (v' + Int32.ofInt d))) s1 s2 σ ρ
    | _, _ => False
  | .istore_n _ => match s1, s2 with
    | .int v :: r, .int v' :: r' => k (pc + 1) (rs1 l1 x.2.2.2.1 (.int v)) (rs1 l2 x.2.2.2.1 (.int v')) r r' σ ρ
    | _, _ => True
  | .istore n => match s1, s2 with
    | .int v :: r, .int v' :: r' => k (pc + 2) (rs1 l1 n (.int v)) (rs1 l2 n (.int v')) r r' σ ρ
    | _, _ => True
  | .lstore_n _ => match s1, s2 with
    | .long v :: r, .long v' :: r' => k (pc + 1) (rs2 l1 x.2.2.2.1 (.long v)) (rs2 l2 x.2.2.2.1 (.long v')) r r' σ ρ
    | _, _ => True
  | .iadd => match s1, s2 with
    | .int a :: .int b :: r, .int a' :: .int b' :: r' => k (pc + 1) l1 l2 (.int (b + a) :: r) (.int (b' + a') :: r') σ ρ
    | _, _ => True
  | .isub => match s1, s2 with
    | .int a :: .int b :: r, .int a' :: .int b' :: r' => k (pc + 1) l1 l2 (.int (b - a) :: r) (.int (b' - a') :: r') σ ρ
    | _, _ => True
  | .imul => match s1, s2 with
    | .int a :: .int b :: r, .int a' :: .int b' :: r' => k (pc + 1) l1 l2 (.int (b * a) :: r) (.int (b' * a') :: r') σ ρ
    | _, _ => True
  | .ior => match s1, s2 with
    | .int a :: .int b :: r, .int a' :: .int b' :: r' => k (pc + 1) l1 l2 (.int (b ||| a) :: r) (.int (b' ||| a') :: r') σ ρ
    | _, _ => True
  | .ishl => match s1, s2 with
    | .int a :: .int b :: r, .int a' :: .int b' :: r' => k (pc + 1) l1 l2 (.int (b <<< (a &&& 31)) :: r) (.int (b' <<< (a' &&& 31)) :: r') σ ρ
    | _, _ => True
  | .ladd => match s1, s2 with
    | .long a :: .long b :: r, .long a' :: .long b' :: r' => k (pc + 1) l1 l2 (.long (b + a) :: r) (.long (b' + a') :: r') σ ρ
    | _, _ => True
  | .lmul => match s1, s2 with
    | .long a :: .long b :: r, .long a' :: .long b' :: r' => k (pc + 1) l1 l2 (.long (b * a) :: r) (.long (b' * a') :: r') σ ρ
    | _, _ => True
  | .lor => match s1, s2 with
    | .long a :: .long b :: r, .long a' :: .long b' :: r' => k (pc + 1) l1 l2 (.long (b ||| a) :: r) (.long (b' ||| a') :: r') σ ρ
    | _, _ => True
  | .lshl => match s1, s2 with
    | .int a :: .long b :: r, .int a' :: .long b' :: r' => k (pc + 1) l1 l2 (.long (b <<< (a.toInt64 &&& 63)) :: r) (.long (b' <<< (a'.toInt64 &&& 63)) :: r') σ ρ
    | _, _ => True
  | .iand => False
  | .ishr => False
  | .iushr => False
  | .lsub => False
  | .land => False
  | .lxor => False
  | .lneg => False
  | .lshr => False
  | .lushr => False
  | .l2i => False
  | .i2b => False
  | .i2c => False
  | .ldiv => False
  | .lrem => False
  | .lload _ => False
  | .lstore _ => False
  | .lreturn => False
  | .i2l => match s1, s2 with
    | .int a :: r, .int a' :: r' => k (pc + 1) l1 l2 (.long a.toInt64 :: r) (.long a'.toInt64 :: r') σ ρ
    | _, _ => True
  | .lcmp => match s1, s2 with
    | .long a :: .long b :: r, .long a' :: .long b' :: r' => k (pc + 1) l1 l2 (.int (lg_cmp b a) :: r) (.int (lg_cmp b' a') :: r') σ ρ
    | _, _ => True
  | .dup => match s1, s2 with
    | .int a :: r, .int a' :: r' => k (pc + 1) l1 l2 (.int a :: .int a :: r) (.int a' :: .int a' :: r') σ ρ
    | .ref a :: r, .ref a' :: r' => k (pc + 1) l1 l2 (.ref a :: .ref a :: r) (.ref a' :: .ref a' :: r') σ ρ
    | _, _ => False
  | .dup2 => match s1, s2 with
    | .int a :: .ref b :: r, .int a' :: .ref b' :: r' => k (pc + 1) l1 l2 (.int a :: .ref b :: .int a :: .ref b :: r) (.int a' :: .ref b' :: .int a' :: .ref b' :: r') σ ρ
    | _, _ => True
  | .pop => match s1, s2 with
    | .int _ :: r, .int _ :: r' => k (pc + 1) l1 l2 r r' σ ρ
    | _, _ => True
  | .ifCond c _ => match s1, s2 with
    | .int v :: r, .int v' :: r' => (rcd c v 0 → rcd c v' 0 ∧ K x.2.2.2.1 l1 l2 r r' σ ρ) ∧ (rno c v 0 → rno c v' 0 ∧ k (pc + 3) l1 l2 r r' σ ρ)
    | _, _ => True
  | .if_icmp c _ => match s1, s2 with
    | .int y :: .int v :: r, .int y' :: .int v' :: r' => (rcd c v y → rcd c v' y' ∧ K x.2.2.2.1 l1 l2 r r' σ ρ) ∧ (rno c v y → rno c v' y' ∧ k (pc + 3) l1 l2 r r' σ ρ)
    | _, _ => True
  | .goto _ => K x.2.2.2.1 l1 l2 s1 s2 σ ρ
  | .tableswitch _ _ _ _ => match s1, s2 with
    | .int v :: r, .int v' :: r' => v' = v ∧ rsw v.toInt x.2.2.2.2 x.2.2.2.1 (fun t => K t l1 l2 r r' σ ρ)
    | _, _ => True
  | .lookupswitch _ _ => match s1, s2 with
    | .int v :: r, .int v' :: r' => v' = v ∧ rsw v.toInt x.2.2.2.2 x.2.2.2.1 (fun t => K t l1 l2 r r' σ ρ)
    | _, _ => True
  | .ireturn => match s1, s2 with
    | [.int v], [.int v'] => Z (some (.int v)) σ (some (.int v')) ρ
    | _, _ => True
  | .return_ => match s1, s2 with
    | [], [] => Z none σ none ρ
    | _, _ => True
  | .getfield _ => match s1, s2 with
    | .ref _ :: r, .ref _ :: r' => (match Nat.beq x.2.2.1.toNat 0 with
      | true => k (pc + 3) l1 l2 (.int (gI σ x.2.2.2.1) :: r) (.int (gI ρ x.2.2.2.1) :: r') σ ρ
      | false => match Nat.beq x.2.2.1.toNat 1 with
        | true => k (pc + 3) l1 l2 (.int (gI σ x.2.2.2.1) :: r) (.int (gI ρ x.2.2.2.1) :: r') σ ρ
        | false => match Nat.beq x.2.2.1.toNat 2 with
          | true => k (pc + 3) l1 l2 (.long (gL σ x.2.2.2.1) :: r) (.long (gL ρ x.2.2.2.1) :: r') σ ρ
          | false => k (pc + 3) l1 l2 (.ref x.2.2.2.1 :: r) (.ref x.2.2.2.1 :: r') σ ρ)
    | _, _ => True
  | .putfield _ => match s1, s2 with
    | .int v :: .ref _ :: r, .int v' :: .ref _ :: r' => k (pc + 3) l1 l2 r r' (sI σ x.2.2.2.1 v) (sI ρ x.2.2.2.1 v')
    | .long v :: .ref _ :: r, .long v' :: .ref _ :: r' => k (pc + 3) l1 l2 r r' (sL σ x.2.2.2.1 v) (sL ρ x.2.2.2.1 v')
    | _, _ => False
  | .iaload => match s1, s2 with
    | .int j :: .ref n :: r, .int j' :: .ref n' :: r' => vp_in j (ln n) → vp_in j' (ln n') → k (pc + 1) l1 l2 (.int (aI σ n j.toNatClampNeg) :: r) (.int (aI ρ n' j'.toNatClampNeg) :: r') σ ρ
    | _, _ => True
  | .baload => match s1, s2 with
    | .int j :: .ref n :: r, .int j' :: .ref n' :: r' => vp_in j (ln n) → vp_in j' (ln n') → k (pc + 1) l1 l2 (.int (aI σ n j.toNatClampNeg) :: r) (.int (aI ρ n' j'.toNatClampNeg) :: r') σ ρ
    | _, _ => True
  | .laload => match s1, s2 with
    | .int j :: .ref n :: r, .int j' :: .ref n' :: r' => vp_in j (ln n) → vp_in j' (ln n') → k (pc + 1) l1 l2 (.long (aL σ n j.toNatClampNeg) :: r) (.long (aL ρ n' j'.toNatClampNeg) :: r') σ ρ
    | _, _ => True
  | .iastore => match s1, s2 with
    | .int v :: .int j :: .ref n :: r, .int v' :: .int j' :: .ref n' :: r' => vp_in j (ln n) → vp_in j' (ln n') → k (pc + 1) l1 l2 r r' (sA σ n (upd (aI σ n) j.toNatClampNeg v)) (sA ρ n' (upd (aI ρ n') j'.toNatClampNeg v'))
    | _, _ => True
  | .bastore => match s1, s2 with
    | .int v :: .int j :: .ref n :: r, .int v' :: .int j' :: .ref n' :: r' => vp_in j (ln n) → vp_in j' (ln n') → k (pc + 1) l1 l2 r r' (sA σ n (upd (aI σ n) j.toNatClampNeg v)) (sA ρ n' (upd (aI ρ n') j'.toNatClampNeg v'))
    | _, _ => True
  | .lastore => match s1, s2 with
    | .long v :: .int j :: .ref n :: r, .long v' :: .int j' :: .ref n' :: r' => vp_in j (ln n) → vp_in j' (ln n') → k (pc + 1) l1 l2 r r' (sM σ n (vp_updL (aL σ n) j.toNatClampNeg v)) (sM ρ n' (vp_updL (aL ρ n') j'.toNatClampNeg v'))
    | _, _ => True
  | .invokevirtual _ => match jct jc x.2.2.2.1 with
    | some (P, Q) => match s1.drop x.2.2.1.toNat, s2.drop x.2.2.1.toNat with
      | .ref _ :: r, .ref _ :: r' => P (s1.take x.2.2.1.toNat).reverse (s2.take x.2.2.1.toNat).reverse σ ρ ∧ ∀ (w : Option Value) (τ : RS) (w' : Option Value) (τ' : RS), Q (s1.take x.2.2.1.toNat).reverse (s2.take x.2.2.1.toNat).reverse σ ρ w τ w' τ' → k (pc + 3) l1 l2 (w.toList ++ r) (w'.toList ++ r') τ τ'
      | _, _ => True
    | none => False
  | _ => True
def jwp (jc : JC) (K : JK) (Z : JZ) : List RI → JK
  | [], pc, l1, l2, s1, s2, σ, ρ => K pc l1 l2 s1 s2 σ ρ
  | x :: is, pc, l1, l2, s1, s2, σ, ρ => jst jc K Z x pc l1 l2 s1 s2 σ ρ (jwp jc K Z is)
def jgo (bs : RB) (jc : JC) (K : JK) (Z : JZ) : JK := fun pc l1 l2 s1 s2 σ ρ => match rfd bs pc with
  | some is => jwp jc K Z is pc l1 l2 s1 s2 σ ρ
  | none => True
/-- each place has one value -/
def Uq (ls : RL) : Prop := ∀ i v v', (i, v) ∈ ls → (i, v') ∈ ls → v = v'
def JMet (μ : Nat) (P : JPr) (Q : JQr) : Prop := ∀ A1 A2 σ ρ, P A1 A2 σ ρ → ∀ w τ w' τ', EvM μ A1 σ w τ → EvM μ A2 ρ w' τ' → Q A1 A2 σ ρ w τ w' τ'
theorem rdl_key {i j : Nat} : ∀ (l : RL) (q : Nat × Value), q ∈ rdl i j l ↔ q ∈ l ∧ rky i j q = true := by
  intro l
  induction l with
  | nil => intro q; exact ⟨fun h => absurd h List.not_mem_nil, fun h => absurd h.1 List.not_mem_nil⟩
  | cons y r ih =>
    intro q
    unfold rdl
    cases hy : rky i j y with
    | true =>
      dsimp only
      rw [List.mem_cons, List.mem_cons, ih q]
      refine ⟨fun h => h.elim (fun e => ⟨Or.inl e, by rw [e]; exact hy⟩) (fun h => ⟨Or.inr h.1, h.2⟩), fun h => h.1.elim (fun e => Or.inl e) (fun m => Or.inr ⟨m, h.2⟩)⟩
    | false =>
      dsimp only
      rw [List.mem_cons, ih q]
      refine ⟨fun h => ⟨Or.inr h.1, h.2⟩, fun h => h.1.elim (fun e => ?_) (fun m => ⟨m, h.2⟩)⟩
      rw [e, hy] at h
      exact absurd h.2 (by decide)
theorem rky_ne {i j : Nat} {q : Nat × Value} (h : rky i j q = true) : q.1 ≠ i := by
  intro e
  unfold rky at h
  rw [e, show Nat.beq i i = true from Nat.beq_refl i] at h
  cases h
theorem Uq.r1 {ls : RL} (h : Uq ls) {i : Nat} {v : Value} : Uq (rs1 ls i v) := by
  intro k a b ha hb
  unfold rs1 at ha hb
  rcases List.mem_cons.mp ha with ea | ma <;> rcases List.mem_cons.mp hb with eb | mb
  · cases ea; cases eb; rfl
  · cases ea; exact absurd rfl (rky_ne ((rdl_key _ _).mp mb).2)
  · cases eb; exact absurd rfl (rky_ne ((rdl_key _ _).mp ma).2)
  · exact h k a b ((rdl_key _ _).mp ma).1 ((rdl_key _ _).mp mb).1
theorem Uq.r2 {ls : RL} (h : Uq ls) {i : Nat} {v : Value} : Uq (rs2 ls i v) := by
  intro k a b ha hb
  unfold rs2 at ha hb
  rcases List.mem_cons.mp ha with ea | ma <;> rcases List.mem_cons.mp hb with eb | mb
  · cases ea; cases eb; rfl
  · cases ea; exact absurd rfl (rky_ne ((rdl_key _ _).mp mb).2)
  · cases eb; exact absurd rfl (rky_ne ((rdl_key _ _).mp ma).2)
  · exact h k a b ((rdl_key _ _).mp ma).1 ((rdl_key _ _).mp mb).1
theorem Uq.lk {ls ls' : RL} (h : Uq ls') (hs : ∀ q ∈ ls, q ∈ ls') {i : Nat} {a b : Value} (ha : rlk ls i = some a) (hb : (i, b) ∈ ls') : b = a := h i b a hb (hs _ (rlk_mem ha))
theorem rcd_no {c : Jvm.ClassFile.Cond} {x y : Int32} (h : rcd c x y) (h' : rno c x y) : False := by
  cases c <;> first | exact h' h | exact h h'
theorem rsx_w {x : Int} {l : List (Int × Nat)} {d t : Nat} {K : Nat → Prop} (h : rsx x l d t) (hw : rsw x l d K) : K t := by
  induction l with
  | nil => cases h; exact hw
  | cons q r ih => exact h.elim (fun e => by rw [e.2]; exact hw.1 e.1) (fun e => ih e.2 (hw.2 e.1))
theorem rsx_u {x : Int} {l : List (Int × Nat)} {d t t' : Nat} (h : rsx x l d t) (h' : rsx x l d t') : t = t' := by
  induction l with
  | nil => cases h; cases h'; rfl
  | cons q r ih => exact h.elim (fun e => h'.elim (fun e' => by rw [e.2, e'.2]) (fun e' => absurd e.1 e'.1)) (fun e => h'.elim (fun e' => absurd e'.1 e.1) (fun e' => ih e.2 e'.2))
theorem vp_in0 {j : Int32} {n : Nat} (h : vp_in j n) : 0 ≤ j := by
  have : ¬ j < 0 := fun q => h (Or.inl q)
  exact Int32.not_lt.mp this
theorem jst_ok {jc : JC} {K : JK} {Z : JZ} {x : RI} {pc : Nat} {l1 l2 m1 m2 : RL} {s1 s2 : List Value} {σ ρ : RS} {k : JK} {N1 N2 : RK} {J1 J2 : Nat → List Value → Prop} {R1 R2 : Option Value → Prop} {C1 C2 : Nat → List Value → List Value → Prop} {Φ : Prop}
    (u1 : Uq m1) (u2 : Uq m2) (b1 : ∀ q ∈ l1, q ∈ m1) (b2 : ∀ q ∈ l2, q ∈ m2)
    (hj : jst jc K Z x pc l1 l2 s1 s2 σ ρ k) (h1 : rxe x pc m1 s1 σ N1 J1 R1 C1) (h2 : rxe x pc m2 s2 ρ N2 J2 R2 C2)
    (hN : ∀ pc' a1 a2 c1 c2 r1 r2 σ' ρ', Uq c1 → Uq c2 → (∀ q ∈ a1, q ∈ c1) → (∀ q ∈ a2, q ∈ c2) → k pc' a1 a2 r1 r2 σ' ρ' → N1 pc' c1 r1 σ' → N2 pc' c2 r2 ρ' → Φ)
    (hJ : ∀ t r1 r2, K t l1 l2 r1 r2 σ ρ → J1 t r1 → J2 t r2 → Φ)
    (hR : ∀ w w', Z w σ w' ρ → R1 w → R2 w' → Φ)
    (hC : ∀ μ P Q A1 A2 r1 r2, jct jc μ = some (P, Q) → P A1 A2 σ ρ → (∀ w τ w' τ', Q A1 A2 σ ρ w τ w' τ' → k (pc + 3) l1 l2 (w.toList ++ r1) (w'.toList ++ r2) τ τ') → C1 μ A1 r1 → C2 μ A2 r2 → Φ) : Φ := by
  obtain ⟨x1, len, a, b, cs⟩ := x
  cases x1 with
  | iconst n => exact hN _ _ _ _ _ _ _ _ _ u1 u2 b1 b2 hj h1 h2
  | bipush n => exact hN _ _ _ _ _ _ _ _ _ u1 u2 b1 b2 hj h1 h2
  | sipush n => exact hN _ _ _ _ _ _ _ _ _ u1 u2 b1 b2 hj h1 h2
  | lconst n => exact hN _ _ _ _ _ _ _ _ _ u1 u2 b1 b2 hj h1 h2
  | ldc2_w n => exact hN _ _ _ _ _ _ _ _ _ u1 u2 b1 b2 hj h1 h2
  | iload_n n =>
    dsimp only [jst] at hj
    obtain ⟨v, e1, h1⟩ := h1
    obtain ⟨v', e2, h2⟩ := h2
    split at hj
    next y y' f1 f2 =>
      cases u1.lk b1 f1 e1
      cases u2.lk b2 f2 e2
      exact hN _ _ _ _ _ _ _ _ _ u1 u2 b1 b2 hj h1 h2
    next => exact hj.elim
  | iload n =>
    dsimp only [jst] at hj
    obtain ⟨v, e1, h1⟩ := h1
    obtain ⟨v', e2, h2⟩ := h2
    split at hj
    next y y' f1 f2 =>
      cases u1.lk b1 f1 e1
      cases u2.lk b2 f2 e2
      exact hN _ _ _ _ _ _ _ _ _ u1 u2 b1 b2 hj h1 h2
    next => exact hj.elim
  | lload_n n =>
    dsimp only [jst] at hj
    obtain ⟨v, e1, h1⟩ := h1
    obtain ⟨v', e2, h2⟩ := h2
    split at hj
    next y y' f1 f2 =>
      cases u1.lk b1 f1 e1
      cases u2.lk b2 f2 e2
      exact hN _ _ _ _ _ _ _ _ _ u1 u2 b1 b2 hj h1 h2
    next => exact hj.elim
  | aload_n n =>
    dsimp only [jst] at hj
    obtain ⟨v, e1, h1⟩ := h1
    obtain ⟨v', e2, h2⟩ := h2
    split at hj
    next y y' f1 f2 =>
      cases u1.lk b1 f1 e1
      cases u2.lk b2 f2 e2
      exact hN _ _ _ _ _ _ _ _ _ u1 u2 b1 b2 hj h1 h2
    next => exact hj.elim
  | iinc n d =>
    dsimp only [jst] at hj
    obtain ⟨v, e1, h1⟩ := h1
    obtain ⟨v', e2, h2⟩ := h2
    split at hj
    next y y' f1 f2 =>
      cases u1.lk b1 f1 e1
      cases u2.lk b2 f2 e2
      exact hN _ _ _ _ _ _ _ _ _ u1.r1 u2.r1 (rs1_sub b1) (rs1_sub b2) hj h1 h2
    next => exact hj.elim
  | goto n => exact hJ _ _ _ hj h1 h2
  | istore_n n =>
    dsimp only [rxe] at h1 h2
    split at h1
    next =>
      split at h2
      next => exact hN _ _ _ _ _ _ _ _ _ u1.r1 u2.r1 (rs1_sub b1) (rs1_sub b2) hj h1 h2
      next => exact h2.elim
    next => exact h1.elim
  | istore n =>
    dsimp only [rxe] at h1 h2
    split at h1
    next =>
      split at h2
      next => exact hN _ _ _ _ _ _ _ _ _ u1.r1 u2.r1 (rs1_sub b1) (rs1_sub b2) hj h1 h2
      next => exact h2.elim
    next => exact h1.elim
  | lstore_n n =>
    dsimp only [rxe] at h1 h2
    split at h1
    next =>
      split at h2
      next => exact hN _ _ _ _ _ _ _ _ _ u1.r2 u2.r2 (rs2_sub b1) (rs2_sub b2) hj h1 h2
      next => exact h2.elim
    next => exact h1.elim
  | iadd =>
    dsimp only [rxe] at h1 h2
    split at h1
    next =>
      split at h2
      next => exact hN _ _ _ _ _ _ _ _ _ u1 u2 b1 b2 hj h1 h2
      next => exact h2.elim
    next => exact h1.elim
  | isub =>
    dsimp only [rxe] at h1 h2
    split at h1
    next =>
      split at h2
      next => exact hN _ _ _ _ _ _ _ _ _ u1 u2 b1 b2 hj h1 h2
      next => exact h2.elim
    next => exact h1.elim
  | imul =>
    dsimp only [rxe] at h1 h2
    split at h1
    next =>
      split at h2
      next => exact hN _ _ _ _ _ _ _ _ _ u1 u2 b1 b2 hj h1 h2
      next => exact h2.elim
    next => exact h1.elim
  | ior =>
    dsimp only [rxe] at h1 h2
    split at h1
    next =>
      split at h2
      next => exact hN _ _ _ _ _ _ _ _ _ u1 u2 b1 b2 hj h1 h2
      next => exact h2.elim
    next => exact h1.elim
  | ishl =>
    dsimp only [rxe] at h1 h2
    split at h1
    next =>
      split at h2
      next => exact hN _ _ _ _ _ _ _ _ _ u1 u2 b1 b2 hj h1 h2
      next => exact h2.elim
    next => exact h1.elim
  | ladd =>
    dsimp only [rxe] at h1 h2
    split at h1
    next =>
      split at h2
      next => exact hN _ _ _ _ _ _ _ _ _ u1 u2 b1 b2 hj h1 h2
      next => exact h2.elim
    next => exact h1.elim
  | lmul =>
    dsimp only [rxe] at h1 h2
    split at h1
    next =>
      split at h2
      next => exact hN _ _ _ _ _ _ _ _ _ u1 u2 b1 b2 hj h1 h2
      next => exact h2.elim
    next => exact h1.elim
  | lor =>
    dsimp only [rxe] at h1 h2
    split at h1
    next =>
      split at h2
      next => exact hN _ _ _ _ _ _ _ _ _ u1 u2 b1 b2 hj h1 h2
      next => exact h2.elim
    next => exact h1.elim
  | lshl =>
    dsimp only [rxe] at h1 h2
    split at h1
    next =>
      split at h2
      next => exact hN _ _ _ _ _ _ _ _ _ u1 u2 b1 b2 hj h1 h2
      next => exact h2.elim
    next => exact h1.elim
  | iand => exact False.elim hj
  | ishr => exact False.elim hj
  | iushr => exact False.elim hj
  | lsub => exact False.elim hj
  | land => exact False.elim hj
  | lxor => exact False.elim hj
  | lneg => exact False.elim hj
  | lshr => exact False.elim hj
  | lushr => exact False.elim hj
  | l2i => exact False.elim hj
  | i2b => exact False.elim hj
  | i2c => exact False.elim hj
  | ldiv => exact False.elim hj
  | lrem => exact False.elim hj
  | lload n => exact False.elim hj
  | lstore n => exact False.elim hj
  | lreturn => exact False.elim hj
  | i2l =>
    dsimp only [rxe] at h1 h2
    split at h1
    next =>
      split at h2
      next => exact hN _ _ _ _ _ _ _ _ _ u1 u2 b1 b2 hj h1 h2
      next => exact h2.elim
    next => exact h1.elim
  | lcmp =>
    dsimp only [rxe] at h1 h2
    split at h1
    next =>
      split at h2
      next => exact hN _ _ _ _ _ _ _ _ _ u1 u2 b1 b2 hj h1 h2
      next => exact h2.elim
    next => exact h1.elim
  | dup2 =>
    dsimp only [rxe] at h1 h2
    split at h1
    next =>
      split at h2
      next => exact hN _ _ _ _ _ _ _ _ _ u1 u2 b1 b2 hj h1 h2
      next => exact h2.elim
    next => exact h1.elim
  | pop =>
    dsimp only [rxe] at h1 h2
    split at h1
    next =>
      split at h2
      next => exact hN _ _ _ _ _ _ _ _ _ u1 u2 b1 b2 hj h1 h2
      next => exact h2.elim
    next => exact h1.elim
  | dup =>
    dsimp only [rxe] at h1 h2
    split at h1
    next =>
      split at h2
      next => exact hN _ _ _ _ _ _ _ _ _ u1 u2 b1 b2 hj h1 h2
      next => exact False.elim hj
      next => exact h2.elim
    next =>
      split at h2
      next => exact False.elim hj
      next => exact hN _ _ _ _ _ _ _ _ _ u1 u2 b1 b2 hj h1 h2
      next => exact h2.elim
    next => exact h1.elim
  | putfield n =>
    dsimp only [rxe] at h1 h2
    split at h1
    next =>
      split at h2
      next => exact hN _ _ _ _ _ _ _ _ _ u1 u2 b1 b2 hj h1 h2
      next => exact False.elim hj
      next => exact h2.elim
    next =>
      split at h2
      next => exact False.elim hj
      next => exact hN _ _ _ _ _ _ _ _ _ u1 u2 b1 b2 hj h1 h2
      next => exact h2.elim
    next => exact h1.elim
  | ifCond c n =>
    dsimp only [rxe] at h1 h2
    split at h1
    next =>
      split at h2
      next =>
        rcases h1 with ⟨p1, h1⟩ | ⟨p1, h1⟩
        · obtain ⟨p2, hk⟩ := hj.1 p1
          rcases h2 with ⟨p3, h2⟩ | ⟨p3, h2⟩
          · exact hJ _ _ _ hk h1 h2
          · exact (rcd_no p2 p3).elim
        · obtain ⟨p2, hk⟩ := hj.2 p1
          rcases h2 with ⟨p3, h2⟩ | ⟨p3, h2⟩
          · exact (rcd_no p3 p2).elim
          · exact hN _ _ _ _ _ _ _ _ _ u1 u2 b1 b2 hk h1 h2
      next => exact h2.elim
    next => exact h1.elim
  | if_icmp c n =>
    dsimp only [rxe] at h1 h2
    split at h1
    next =>
      split at h2
      next =>
        rcases h1 with ⟨p1, h1⟩ | ⟨p1, h1⟩
        · obtain ⟨p2, hk⟩ := hj.1 p1
          rcases h2 with ⟨p3, h2⟩ | ⟨p3, h2⟩
          · exact hJ _ _ _ hk h1 h2
          · exact (rcd_no p2 p3).elim
        · obtain ⟨p2, hk⟩ := hj.2 p1
          rcases h2 with ⟨p3, h2⟩ | ⟨p3, h2⟩
          · exact (rcd_no p3 p2).elim
          · exact hN _ _ _ _ _ _ _ _ _ u1 u2 b1 b2 hk h1 h2
      next => exact h2.elim
    next => exact h1.elim
  | tableswitch n1 n2 n3 n4 =>
    dsimp only [rxe] at h1 h2
    split at h1
    next =>
      split at h2
      next =>
        obtain ⟨ev, hk⟩ := hj
        subst ev
        obtain ⟨t1, p1, h1⟩ := h1
        obtain ⟨t2, p2, h2⟩ := h2
        cases rsx_u p1 p2
        exact hJ _ _ _ (rsx_w p1 hk) h1 h2
      next => exact h2.elim
    next => exact h1.elim
  | lookupswitch n1 n2 =>
    dsimp only [rxe] at h1 h2
    split at h1
    next =>
      split at h2
      next =>
        obtain ⟨ev, hk⟩ := hj
        subst ev
        obtain ⟨t1, p1, h1⟩ := h1
        obtain ⟨t2, p2, h2⟩ := h2
        cases rsx_u p1 p2
        exact hJ _ _ _ (rsx_w p1 hk) h1 h2
      next => exact h2.elim
    next => exact h1.elim
  | ireturn =>
    dsimp only [rxe] at h1 h2
    split at h1
    next =>
      split at h2
      next => exact hR _ _ hj h1 h2
      next => exact h2.elim
    next => exact h1.elim
  | return_ =>
    dsimp only [rxe] at h1 h2
    split at h1
    next =>
      split at h2
      next => exact hR _ _ hj h1 h2
      next => exact h2.elim
    next => exact h1.elim
  | getfield n =>
    dsimp only [rxe] at h1 h2
    split at h1
    next =>
      split at h2
      next =>
        dsimp only [jst] at hj
        cases q0 : Nat.beq a.toNat 0 with
        | true => rw [q0] at h1 h2 hj; exact hN _ _ _ _ _ _ _ _ _ u1 u2 b1 b2 hj h1 h2
        | false =>
          rw [q0] at h1 h2 hj
          cases q1 : Nat.beq a.toNat 1 with
          | true => rw [q1] at h1 h2 hj; exact hN _ _ _ _ _ _ _ _ _ u1 u2 b1 b2 hj h1 h2
          | false =>
            rw [q1] at h1 h2 hj
            cases q2 : Nat.beq a.toNat 2 with
            | true => rw [q2] at h1 h2 hj; exact hN _ _ _ _ _ _ _ _ _ u1 u2 b1 b2 hj h1 h2
            | false => rw [q2] at h1 h2 hj; exact hN _ _ _ _ _ _ _ _ _ u1 u2 b1 b2 hj h1 h2
      next => exact h2.elim
    next => exact h1.elim
  | iaload =>
    dsimp only [rxe] at h1 h2
    split at h1
    next =>
      split at h2
      next => exact hN _ _ _ _ _ _ _ _ _ u1 u2 b1 b2 (hj h1.1 h2.1) h1.2 h2.2
      next => exact h2.elim
    next => exact h1.elim
  | baload =>
    dsimp only [rxe] at h1 h2
    split at h1
    next =>
      split at h2
      next => exact hN _ _ _ _ _ _ _ _ _ u1 u2 b1 b2 (hj h1.1 h2.1) h1.2 h2.2
      next => exact h2.elim
    next => exact h1.elim
  | laload =>
    dsimp only [rxe] at h1 h2
    split at h1
    next =>
      split at h2
      next => exact hN _ _ _ _ _ _ _ _ _ u1 u2 b1 b2 (hj h1.1 h2.1) h1.2 h2.2
      next => exact h2.elim
    next => exact h1.elim
  | iastore =>
    dsimp only [rxe] at h1 h2
    split at h1
    next =>
      split at h2
      next => exact hN _ _ _ _ _ _ _ _ _ u1 u2 b1 b2 (hj h1.1 h2.1) h1.2 h2.2
      next => exact h2.elim
    next => exact h1.elim
  | bastore =>
    dsimp only [rxe] at h1 h2
    split at h1
    next =>
      split at h2
      next => exact hN _ _ _ _ _ _ _ _ _ u1 u2 b1 b2 (hj h1.1 h2.1) h1.2 h2.2
      next => exact h2.elim
    next => exact h1.elim
  | lastore =>
    dsimp only [rxe] at h1 h2
    split at h1
    next =>
      split at h2
      next => exact hN _ _ _ _ _ _ _ _ _ u1 u2 b1 b2 (hj h1.1 h2.1) h1.2 h2.2
      next => exact h2.elim
    next => exact h1.elim
  | invokevirtual n =>
    dsimp only [rxe] at h1 h2
    dsimp only [jst] at hj
    split at hj
    next P Q e =>
      split at h1
      next m1 r1 d1 =>
        split at h2
        next m2 r2 d2 =>
          rw [d1, d2] at hj
          exact hC _ P Q _ _ _ _ e hj.1 hj.2 h1 h2
        next => exact h2.elim
      next => exact h1.elim
    next => exact hj.elim
  | _ => exact False.elim h1
/-- what is shown of two runs from a place on -/
def Jm (μ n : Nat) (is : List RI) (Z : JZ) : JK := fun pc l1 l2 s1 s2 σ ρ => ∀ (m1 m2 : RL) (m : Nat) (w : Option Value) (τ : RS) (w' : Option Value) (τ' : RS), Uq m1 → Uq m2 → (∀ q ∈ l1, q ∈ m1) → (∀ q ∈ l2, q ∈ m2) → Ev n μ is pc m1 s1 σ w τ → Ev m μ is pc m2 s2 ρ w' τ' → Z w τ w' τ'
theorem jwp_ok {jc : JC} {Z : JZ} {μ : Nat} (hjc : ∀ ν P Q, jct jc ν = some (P, Q) → JMet ν P Q) (is : List RI) : ∀ (n : Nat) (K : JK), (∀ pc l1 l2 s1 s2 σ ρ, K pc l1 l2 s1 s2 σ ρ → ∀ n', n' ≤ n → Jm μ n' [] Z pc l1 l2 s1 s2 σ ρ) → ∀ pc l1 l2 s1 s2 σ ρ, jwp jc K Z is pc l1 l2 s1 s2 σ ρ → ∀ n', n' ≤ n → Jm μ n' is Z pc l1 l2 s1 s2 σ ρ := by
  induction is with
  | nil => intro n K hK pc l1 l2 s1 s2 σ ρ h n' hn; exact hK _ _ _ _ _ _ _ h n' hn
  | cons x is ih =>
    intro n K hK pc l1 l2 s1 s2 σ ρ h n' hn m1 m2 m w τ w' τ' u1 u2 b1 b2 e1 e2
    cases n' with
    | zero => exact e1.elim
    | succ n' =>
      cases m with
      | zero => exact e2.elim
      | succ m =>
        refine jst_ok u1 u2 b1 b2 h e1 e2 (fun pc' a1 a2 c1 c2 r1 r2 σ' ρ' v1 v2 d1 d2 hk q1 q2 => ?_) (fun t r1 r2 hk q1 q2 => ?_) (fun v v' hz q1 q2 => ?_) (fun ν P Q A1 A2 r1 r2 hq hp hk q1 q2 => ?_)
        · exact ih n K hK _ _ _ _ _ _ _ hk n' (by omega) c1 c2 m w τ w' τ' v1 v2 d1 d2 q1 q2
        · exact hK _ _ _ _ _ _ _ hk n' (by omega) m1 m2 m w τ w' τ' u1 u2 b1 b2 q1 q2
        · obtain ⟨g1, g2⟩ := q1
          obtain ⟨g3, g4⟩ := q2
          rw [← g1, ← g2, ← g3, ← g4]
          exact hz
        · obtain ⟨v, σ', g1, g2⟩ := q1
          obtain ⟨v', ρ', g3, g4⟩ := q2
          have hz := hjc ν P Q hq A1 A2 σ ρ hp v σ' v' ρ' ⟨_, g1⟩ ⟨_, g3⟩
          exact ih n K hK _ _ _ _ _ _ _ (hk _ _ _ _ hz) n' (by omega) m1 m2 m w τ w' τ' u1 u2 b1 b2 g2 g4
theorem lv_uq (vs : List Value) : ∀ i, Uq (lv_args i vs) ∧ ∀ k v, (k, v) ∈ lv_args i vs → i ≤ k := by
  induction vs with
  | nil => intro i; exact ⟨fun k a b h => absurd h List.not_mem_nil, fun k v h => absurd h List.not_mem_nil⟩
  | cons y r ih =>
    intro i
    have ih1 := ih (i + 1)
    have ih2 := ih (i + 2)
    have key : ∀ d, 1 ≤ d → (Uq (lv_args (i + d) r) ∧ ∀ k v, (k, v) ∈ lv_args (i + d) r → i + d ≤ k) → Uq ((i, y) :: lv_args (i + d) r) ∧ ∀ k v, (k, v) ∈ (i, y) :: lv_args (i + d) r → i ≤ k := by
      intro d hd q
      refine ⟨fun k a b ha hb => ?_, fun k v h => ?_⟩
      · rcases List.mem_cons.mp ha with ea | ma <;> rcases List.mem_cons.mp hb with eb | mb
        · cases ea; cases eb; rfl
        · cases ea; have := q.2 _ _ mb; omega
        · cases eb; have := q.2 _ _ ma; omega
        · exact q.1 k a b ma mb
      · rcases List.mem_cons.mp h with e | m
        · cases e; exact Nat.le_refl _
        · have := q.2 _ _ m; omega
    unfold lv_args
    first
      | exact key _ (by cases y <;> decide) (ih (i + _))
      | (cases y <;> first | exact key 1 (by decide) ih1 | exact key 2 (by decide) ih2)
theorem JMet.by {μ : Nat} {P : JPr} {Q : JQr} (bs : RB) (jc : JC) (hv : evl μ = some bs) (hjc : ∀ ν P Q, jct jc ν = some (P, Q) → JMet ν P Q)
    (body : ∀ (A1 A2 : List Value) (σ ρ : RS), P A1 A2 σ ρ → ∀ K : Nat → JK, (∀ (n pc : Nat) (l1 l2 : RL) (s1 s2 : List Value) (τ τ' : RS), (∀ m, m < n → jgo bs jc (K m) (Q A1 A2 σ ρ) pc l1 l2 s1 s2 τ τ') → K n pc l1 l2 s1 s2 τ τ') → (∀ (n pc : Nat) (l1 l2 l1' l2' : RL) (s1 s2 : List Value) (τ τ' : RS), (∀ q ∈ l1, q ∈ l1') → (∀ q ∈ l2, q ∈ l2') → K n pc l1 l2 s1 s2 τ τ' → K n pc l1' l2' s1 s2 τ τ') → ∀ n, K n 0 (lv_args 0 (.ref 1000 :: A1)) (lv_args 0 (.ref 1000 :: A2)) [] [] σ ρ) : JMet μ P Q := by
  intro A1 A2 σ ρ hP w τ w' τ' h1 h2
  obtain ⟨n, h1⟩ := h1
  obtain ⟨m, h2⟩ := h2
  have hb := body A1 A2 σ ρ hP (fun n pc l1 l2 s1 s2 τ τ' => ∀ n', n' ≤ n → Jm μ n' [] (Q A1 A2 σ ρ) pc l1 l2 s1 s2 τ τ') (fun n pc l1 l2 s1 s2 τ τ' hk n' hn => ?_) (fun n pc l1 l2 l1' l2' s1 s2 τ τ' c1 c2 hk n' hn => ?_) n
  · exact hb n (Nat.le_refl _) _ _ m w τ w' τ' (lv_uq _ 0).1 (lv_uq _ 0).1 (fun q hq => hq) (fun q hq => hq) h1 h2
  · intro m1 m2 m w τ1 w' τ2 u1 u2 b1 b2 e1 e2
    cases n' with
    | zero => exact e1.elim
    | succ n' =>
      cases m with
      | zero => exact e2.elim
      | succ m =>
        obtain ⟨bs1, is1, g1, g2, g3⟩ := e1
        obtain ⟨bs2, is2, g4, g5, g6⟩ := e2
        have q1 : bs1 = bs := Option.some.inj (g1.symm.trans hv)
        have q2 : bs2 = bs := Option.some.inj (g4.symm.trans hv)
        subst q1
        subst q2
        have q3 : is2 = is1 := Option.some.inj (g5.symm.trans g2)
        subst q3
        have hg := hk n' (by omega)
        unfold jgo at hg
        rw [g2] at hg
        exact jwp_ok hjc is2 n' _ (fun pc l1 l2 s1 s2 σ ρ q => q) pc l1 l2 s1 s2 τ τ' hg n' (Nat.le_refl _) m1 m2 m w τ1 w' τ2 u1 u2 b1 b2 g3 g6
  · intro m1 m2 m w τ1 w' τ2 u1 u2 b1 b2 e1 e2
    exact hk n' hn m1 m2 m w τ1 w' τ2 u1 u2 (fun q hq => b1 q (c1 q hq)) (fun q hq => b2 q (c2 q hq)) e1 e2
theorem jc0 : ∀ ν P Q, jct ([] : JC) ν = some (P, Q) → JMet ν P Q := fun _ _ _ h => by cases h
theorem jcc {μ : Nat} {P : JPr} {Q : JQr} {r : JC} (h : JMet μ P Q) (hr : ∀ ν P Q, jct r ν = some (P, Q) → JMet ν P Q) : ∀ ν P' Q', jct ((μ, P, Q) :: r) ν = some (P', Q') → JMet ν P' Q' := by
  intro ν P' Q' e
  unfold jct at e
  cases q : Nat.beq μ ν with
  | true =>
    rw [q] at e
    have e1 : μ = ν := Nat.eq_of_beq_eq_true q
    subst e1
    cases e
    exact h
  | false => rw [q] at e; exact hr ν P' Q' e
/-! one run alone -/
abbrev UP1 : Type := List Value → RS → Prop
abbrev UQ1 : Type := List Value → RS → Option Value → RS → Prop
abbrev UC : Type := List (Nat × UP1 × UQ1)
def uct (jc : UC) (μ : Nat) : Option (UP1 × UQ1) := match jc with
  | [] => none
  | q :: r => match Nat.beq q.1 μ with
    | true => some q.2
    | false => uct r μ
def ust (jc : UC) (K : RK) (Z : Option Value → RS → Prop) (x : RI) (pc : Nat) (l1 : RL) (s1 : List Value) (σ : RS) (k : RK) : Prop :=
  match x.1 with
  | .iconst n => k (pc + 1) l1 (.int (Int32.ofInt n) :: s1) σ
  | .bipush n => k (pc + 2) l1 (.int (Int32.ofInt n) :: s1) σ
  | .sipush n => k (pc + 3) l1 (.int (Int32.ofInt n) :: s1) σ
  | .lconst n => k (pc + 1) l1 (.long (Int64.ofNat (n : Nat)) :: s1) σ
  | .ldc2_w _ => k (pc + 3) l1 (.long (Int64.ofInt x.2.2.1) :: s1) σ
  | .iload_n _ => match rlk l1 x.2.2.2.1 with
    | some (.int v) => k (pc + 1) l1 (.int v :: s1) σ
    | _ => False
  | .iload n => match rlk l1 n with
    | some (.int v) => k (pc + 2) l1 (.int v :: s1) σ
    | _ => False
  | .lload_n _ => match rlk l1 x.2.2.2.1 with
    | some (.long v) => k (pc + 1) l1 (.long v :: s1) σ
    | _ => False
  | .aload_n _ => match rlk l1 x.2.2.2.1 with
    | some (.ref v) => k (pc + 1) l1 (.ref v :: s1) σ
    | _ => False
  | .iinc n d => match rlk l1 n with
    | some (.int v) => k (pc + 3) (rs1 l1 n (.int (v + Int32.ofInt d))) s1 σ
    | _ => False
  | .istore_n _ => match s1 with
    | .int v :: r => k (pc + 1) (rs1 l1 x.2.2.2.1 (.int v)) r σ
    | _ => True
  | .istore n => match s1 with
    | .int v :: r => k (pc + 2) (rs1 l1 n (.int v)) r σ
    | _ => True
  | .lstore_n _ => match s1 with
    | .long v :: r => k (pc + 1) (rs2 l1 x.2.2.2.1 (.long v)) r σ
    | _ => True
  | .iadd => match s1 with
    | .int a :: .int b :: r => k (pc + 1) l1 (.int (b + a) :: r) σ
    | _ => True
  | .isub => match s1 with
    | .int a :: .int b :: r => k (pc + 1) l1 (.int (b - a) :: r) σ
    | _ => True
  | .imul => match s1 with
    | .int a :: .int b :: r => k (pc + 1) l1 (.int (b * a) :: r) σ
    | _ => True
  | .ior => match s1 with
    | .int a :: .int b :: r => k (pc + 1) l1 (.int (b ||| a) :: r) σ
    | _ => True
  | .ishl => match s1 with
    | .int a :: .int b :: r => k (pc + 1) l1 (.int (b <<< (a &&& 31)) :: r) σ
    | _ => True
  | .ladd => match s1 with
    | .long a :: .long b :: r => k (pc + 1) l1 (.long (b + a) :: r) σ
    | _ => True
  | .lmul => match s1 with
    | .long a :: .long b :: r => k (pc + 1) l1 (.long (b * a) :: r) σ
    | _ => True
  | .lor => match s1 with
    | .long a :: .long b :: r => k (pc + 1) l1 (.long (b ||| a) :: r) σ
    | _ => True
  | .lshl => match s1 with
    | .int a :: .long b :: r => k (pc + 1) l1 (.long (b <<< (a.toInt64 &&& 63)) :: r) σ
    | _ => True
  | .iand => match s1 with
    | .int y :: .int x :: r => k (pc + 1) l1 (.int (x &&& y) :: r) σ
    | _ => True
  | .ishr => match s1 with
    | .int y :: .int x :: r => k (pc + 1) l1 (.int (x >>> (y &&& 31)) :: r) σ
    | _ => True
  | .iushr => match s1 with
    | .int y :: .int x :: r => k (pc + 1) l1 (.int ((x.toUInt32 >>> (y.toUInt32 &&& Int32.toUInt32 31)).toInt32) :: r) σ
    | _ => True
  | .lsub => match s1 with
    | .long y :: .long x :: r => k (pc + 1) l1 (.long (x - y) :: r) σ
    | _ => True
  | .land => match s1 with
    | .long y :: .long x :: r => k (pc + 1) l1 (.long (x &&& y) :: r) σ
    | _ => True
  | .lxor => match s1 with
    | .long y :: .long x :: r => k (pc + 1) l1 (.long (x ^^^ y) :: r) σ
    | _ => True
  | .lneg => match s1 with
    | .long x :: r => k (pc + 1) l1 (.long (-x) :: r) σ
    | _ => True
  | .lshr => match s1 with
    | .int y :: .long x :: r => k (pc + 1) l1 (.long (x >>> (y.toInt64 &&& 63)) :: r) σ
    | _ => True
  | .lushr => match s1 with
    | .int y :: .long x :: r => k (pc + 1) l1 (.long ((x.toUInt64 >>> (y.toInt64.toUInt64 &&& Int64.toUInt64 63)).toInt64) :: r) σ
    | _ => True
  | .l2i => match s1 with
    | .long x :: r => k (pc + 1) l1 (.int x.toInt32 :: r) σ
    | _ => True
  | .i2b => match s1 with
    | .int x :: r => k (pc + 1) l1 (.int x.toInt8.toInt32 :: r) σ
    | _ => True
  | .i2c => match s1 with
    | .int x :: r => k (pc + 1) l1 (.int (x.toUInt32 % 65536).toInt32 :: r) σ
    | _ => True
  | .ldiv => match s1 with
    | .long y :: .long x :: r => ¬ y = 0 → k (pc + 1) l1 (.long (x / y) :: r) σ
    | _ => True
  | .lrem => match s1 with
    | .long y :: .long x :: r => ¬ y = 0 → k (pc + 1) l1 (.long (x - x / y * y) :: r) σ
    | _ => True
  | .lload n => match rlk l1 n with
    | some (.long v) => k (pc + 2) l1 (.long v :: s1) σ
    | _ => False
  | .lstore n => match s1 with
    | .long v :: r => k (pc + 2) (rs2 l1 n (.long v)) r σ
    | _ => True
  | .lreturn => match s1 with
    | [.long v] => Z (some (.long v)) σ
    | _ => True
  | .i2l => match s1 with
    | .int a :: r => k (pc + 1) l1 (.long a.toInt64 :: r) σ
    | _ => True
  | .lcmp => match s1 with
    | .long a :: .long b :: r => k (pc + 1) l1 (.int (lg_cmp b a) :: r) σ
    | _ => True
  | .dup => match s1 with
    | .int a :: r => k (pc + 1) l1 (.int a :: .int a :: r) σ
    | .ref a :: r => k (pc + 1) l1 (.ref a :: .ref a :: r) σ
    | _ => True
  | .dup2 => match s1 with
    | .int a :: .ref b :: r => k (pc + 1) l1 (.int a :: .ref b :: .int a :: .ref b :: r) σ
    | _ => True
  | .pop => match s1 with
    | .int _ :: r => k (pc + 1) l1 r σ
    | _ => True
  | .ifCond c _ => match s1 with
    | .int v :: r => (rcd c v 0 → K x.2.2.2.1 l1 r σ) ∧ (rno c v 0 → k (pc + 3) l1 r σ)
    | _ => True
  | .if_icmp c _ => match s1 with
    | .int y :: .int v :: r => (rcd c v y → K x.2.2.2.1 l1 r σ) ∧ (rno c v y → k (pc + 3) l1 r σ)
    | _ => True
  | .goto _ => K x.2.2.2.1 l1 s1 σ
  | .tableswitch _ _ _ _ => match s1 with
    | .int v :: r => rsw v.toInt x.2.2.2.2 x.2.2.2.1 (fun t => K t l1 r σ)
    | _ => True
  | .lookupswitch _ _ => match s1 with
    | .int v :: r => rsw v.toInt x.2.2.2.2 x.2.2.2.1 (fun t => K t l1 r σ)
    | _ => True
  | .ireturn => match s1 with
    | [.int v] => Z (some (.int v)) σ
    | _ => True
  | .return_ => match s1 with
    | [] => Z none σ
    | _ => True
  | .getfield _ => match s1 with
    | .ref _ :: r => (match Nat.beq x.2.2.1.toNat 0 with
      | true => k (pc + 3) l1 (.int (gI σ x.2.2.2.1) :: r) σ
      | false => match Nat.beq x.2.2.1.toNat 1 with
        | true => k (pc + 3) l1 (.int (gI σ x.2.2.2.1) :: r) σ
        | false => match Nat.beq x.2.2.1.toNat 2 with
          | true => k (pc + 3) l1 (.long (gL σ x.2.2.2.1) :: r) σ
          | false => k (pc + 3) l1 (.ref x.2.2.2.1 :: r) σ)
    | _ => True
  | .putfield _ => match s1 with
    | .int v :: .ref _ :: r => k (pc + 3) l1 r (sI σ x.2.2.2.1 v)
    | .long v :: .ref _ :: r => k (pc + 3) l1 r (sL σ x.2.2.2.1 v)
    | _ => True
  | .iaload => match s1 with
    | .int j :: .ref n :: r => vp_in j (ln n) → k (pc + 1) l1 (.int (aI σ n j.toNatClampNeg) :: r) σ
    | _ => True
  | .baload => match s1 with
    | .int j :: .ref n :: r => vp_in j (ln n) → k (pc + 1) l1 (.int (aI σ n j.toNatClampNeg) :: r) σ
    | _ => True
  | .laload => match s1 with
    | .int j :: .ref n :: r => vp_in j (ln n) → k (pc + 1) l1 (.long (aL σ n j.toNatClampNeg) :: r) σ
    | _ => True
  | .iastore => match s1 with
    | .int v :: .int j :: .ref n :: r => vp_in j (ln n) → k (pc + 1) l1 r (sA σ n (upd (aI σ n) j.toNatClampNeg v))
    | _ => True
  | .bastore => match s1 with
    | .int v :: .int j :: .ref n :: r => vp_in j (ln n) → k (pc + 1) l1 r (sA σ n (upd (aI σ n) j.toNatClampNeg v))
    | _ => True
  | .lastore => match s1 with
    | .long v :: .int j :: .ref n :: r => vp_in j (ln n) → k (pc + 1) l1 r (sM σ n (vp_updL (aL σ n) j.toNatClampNeg v))
    | _ => True
  | .invokevirtual _ => match uct jc x.2.2.2.1 with
    | some (P, Q) => match s1.drop x.2.2.1.toNat with
      | .ref _ :: r => P (s1.take x.2.2.1.toNat).reverse σ ∧ ∀ (w : Option Value) (τ : RS), Q (s1.take x.2.2.1.toNat).reverse σ w τ → k (pc + 3) l1 (w.toList ++ r) τ
      | _ => True
    | none => False
  | _ => True
def uwp (jc : UC) (K : RK) (Z : Option Value → RS → Prop) : List RI → RK
  | [], pc, l1, s1, σ => K pc l1 s1 σ
  | x :: is, pc, l1, s1, σ => ust jc K Z x pc l1 s1 σ (uwp jc K Z is)
def ugo (bs : RB) (jc : UC) (K : RK) (Z : Option Value → RS → Prop) : RK := fun pc l1 s1 σ => match rfd bs pc with
  | some is => uwp jc K Z is pc l1 s1 σ
  | none => True
def UMet (μ : Nat) (P : UP1) (Q : UQ1) : Prop := ∀ A1 σ, P A1 σ → ∀ w τ, EvM μ A1 σ w τ → Q A1 σ w τ
theorem ust_ok {jc : UC} {K : RK} {Z : Option Value → RS → Prop} {x : RI} {pc : Nat} {l1 m1 : RL} {s1 : List Value} {σ : RS} {k : RK} {N1 : RK} {J1 : Nat → List Value → Prop} {R1 : Option Value → Prop} {C1 : Nat → List Value → List Value → Prop} {Φ : Prop}
    (u1 : Uq m1) (b1 : ∀ q ∈ l1, q ∈ m1)
    (hj : ust jc K Z x pc l1 s1 σ k) (h1 : rxe x pc m1 s1 σ N1 J1 R1 C1)
    (hN : ∀ pc' a1 c1 r1 σ', Uq c1 → (∀ q ∈ a1, q ∈ c1) → k pc' a1 r1 σ' → N1 pc' c1 r1 σ' → Φ)
    (hJ : ∀ t r1, K t l1 r1 σ → J1 t r1 → Φ)
    (hR : ∀ w, Z w σ → R1 w → Φ)
    (hC : ∀ μ P Q A1 r1, uct jc μ = some (P, Q) → P A1 σ → (∀ w τ, Q A1 σ w τ → k (pc + 3) l1 (w.toList ++ r1) τ) → C1 μ A1 r1 → Φ) : Φ := by
  obtain ⟨x1, len, a, b, cs⟩ := x
  cases x1 with
  | iconst n => exact hN _ _ _ _ _ u1 b1 hj h1
  | bipush n => exact hN _ _ _ _ _ u1 b1 hj h1
  | sipush n => exact hN _ _ _ _ _ u1 b1 hj h1
  | lconst n => exact hN _ _ _ _ _ u1 b1 hj h1
  | ldc2_w n => exact hN _ _ _ _ _ u1 b1 hj h1
  | iload_n n =>
    dsimp only [ust] at hj
    obtain ⟨v, e1, h1⟩ := h1
    split at hj
    next y f1 =>
      cases u1.lk b1 f1 e1
      exact hN _ _ _ _ _ u1 b1 hj h1
    next => exact hj.elim
  | iload n =>
    dsimp only [ust] at hj
    obtain ⟨v, e1, h1⟩ := h1
    split at hj
    next y f1 =>
      cases u1.lk b1 f1 e1
      exact hN _ _ _ _ _ u1 b1 hj h1
    next => exact hj.elim
  | lload_n n =>
    dsimp only [ust] at hj
    obtain ⟨v, e1, h1⟩ := h1
    split at hj
    next y f1 =>
      cases u1.lk b1 f1 e1
      exact hN _ _ _ _ _ u1 b1 hj h1
    next => exact hj.elim
  | aload_n n =>
    dsimp only [ust] at hj
    obtain ⟨v, e1, h1⟩ := h1
    split at hj
    next y f1 =>
      cases u1.lk b1 f1 e1
      exact hN _ _ _ _ _ u1 b1 hj h1
    next => exact hj.elim
  | iinc n d =>
    dsimp only [ust] at hj
    obtain ⟨v, e1, h1⟩ := h1
    split at hj
    next y f1 =>
      cases u1.lk b1 f1 e1
      exact hN _ _ _ _ _ u1.r1 (rs1_sub b1) hj h1
    next => exact hj.elim
  | goto n => exact hJ _ _ hj h1
  | istore_n n =>
    dsimp only [rxe] at h1
    split at h1
    next => exact hN _ _ _ _ _ u1.r1 (rs1_sub b1) hj h1
    next => exact h1.elim
  | istore n =>
    dsimp only [rxe] at h1
    split at h1
    next => exact hN _ _ _ _ _ u1.r1 (rs1_sub b1) hj h1
    next => exact h1.elim
  | lstore_n n =>
    dsimp only [rxe] at h1
    split at h1
    next => exact hN _ _ _ _ _ u1.r2 (rs2_sub b1) hj h1
    next => exact h1.elim
  | iadd =>
    dsimp only [rxe] at h1
    split at h1
    next => exact hN _ _ _ _ _ u1 b1 hj h1
    next => exact h1.elim
  | isub =>
    dsimp only [rxe] at h1
    split at h1
    next => exact hN _ _ _ _ _ u1 b1 hj h1
    next => exact h1.elim
  | imul =>
    dsimp only [rxe] at h1
    split at h1
    next => exact hN _ _ _ _ _ u1 b1 hj h1
    next => exact h1.elim
  | ior =>
    dsimp only [rxe] at h1
    split at h1
    next => exact hN _ _ _ _ _ u1 b1 hj h1
    next => exact h1.elim
  | ishl =>
    dsimp only [rxe] at h1
    split at h1
    next => exact hN _ _ _ _ _ u1 b1 hj h1
    next => exact h1.elim
  | ladd =>
    dsimp only [rxe] at h1
    split at h1
    next => exact hN _ _ _ _ _ u1 b1 hj h1
    next => exact h1.elim
  | lmul =>
    dsimp only [rxe] at h1
    split at h1
    next => exact hN _ _ _ _ _ u1 b1 hj h1
    next => exact h1.elim
  | lor =>
    dsimp only [rxe] at h1
    split at h1
    next => exact hN _ _ _ _ _ u1 b1 hj h1
    next => exact h1.elim
  | lshl =>
    dsimp only [rxe] at h1
    split at h1
    next => exact hN _ _ _ _ _ u1 b1 hj h1
    next => exact h1.elim
  | iand =>
    dsimp only [rxe] at h1
    split at h1
    next => exact hN _ _ _ _ _ u1 b1 hj h1
    next => exact h1.elim
  | ishr =>
    dsimp only [rxe] at h1
    split at h1
    next => exact hN _ _ _ _ _ u1 b1 hj h1
    next => exact h1.elim
  | iushr =>
    dsimp only [rxe] at h1
    split at h1
    next => exact hN _ _ _ _ _ u1 b1 hj h1
    next => exact h1.elim
  | lsub =>
    dsimp only [rxe] at h1
    split at h1
    next => exact hN _ _ _ _ _ u1 b1 hj h1
    next => exact h1.elim
  | land =>
    dsimp only [rxe] at h1
    split at h1
    next => exact hN _ _ _ _ _ u1 b1 hj h1
    next => exact h1.elim
  | lxor =>
    dsimp only [rxe] at h1
    split at h1
    next => exact hN _ _ _ _ _ u1 b1 hj h1
    next => exact h1.elim
  | lneg =>
    dsimp only [rxe] at h1
    split at h1
    next => exact hN _ _ _ _ _ u1 b1 hj h1
    next => exact h1.elim
  | lshr =>
    dsimp only [rxe] at h1
    split at h1
    next => exact hN _ _ _ _ _ u1 b1 hj h1
    next => exact h1.elim
  | lushr =>
    dsimp only [rxe] at h1
    split at h1
    next => exact hN _ _ _ _ _ u1 b1 hj h1
    next => exact h1.elim
  | l2i =>
    dsimp only [rxe] at h1
    split at h1
    next => exact hN _ _ _ _ _ u1 b1 hj h1
    next => exact h1.elim
  | i2b =>
    dsimp only [rxe] at h1
    split at h1
    next => exact hN _ _ _ _ _ u1 b1 hj h1
    next => exact h1.elim
  | i2c =>
    dsimp only [rxe] at h1
    split at h1
    next => exact hN _ _ _ _ _ u1 b1 hj h1
    next => exact h1.elim
  | ldiv =>
    dsimp only [rxe] at h1
    split at h1
    next => exact hN _ _ _ _ _ u1 b1 (hj h1.1) h1.2
    next => exact h1.elim
  | lrem =>
    dsimp only [rxe] at h1
    split at h1
    next => exact hN _ _ _ _ _ u1 b1 (hj h1.1) h1.2
    next => exact h1.elim
  | lload n =>
    dsimp only [ust] at hj
    obtain ⟨v, e1, h1⟩ := h1
    split at hj
    next y f1 =>
      cases u1.lk b1 f1 e1
      exact hN _ _ _ _ _ u1 b1 hj h1
    next => exact hj.elim
  | lstore n =>
    dsimp only [rxe] at h1
    split at h1
    next => exact hN _ _ _ _ _ u1.r2 (rs2_sub b1) hj h1
    next => exact h1.elim
  | lreturn =>
    dsimp only [rxe] at h1
    split at h1
    next => exact hR _ hj h1
    next => exact h1.elim
  | i2l =>
    dsimp only [rxe] at h1
    split at h1
    next => exact hN _ _ _ _ _ u1 b1 hj h1
    next => exact h1.elim
  | lcmp =>
    dsimp only [rxe] at h1
    split at h1
    next => exact hN _ _ _ _ _ u1 b1 hj h1
    next => exact h1.elim
  | dup2 =>
    dsimp only [rxe] at h1
    split at h1
    next => exact hN _ _ _ _ _ u1 b1 hj h1
    next => exact h1.elim
  | pop =>
    dsimp only [rxe] at h1
    split at h1
    next => exact hN _ _ _ _ _ u1 b1 hj h1
    next => exact h1.elim
  | dup =>
    dsimp only [rxe] at h1
    split at h1
    next => exact hN _ _ _ _ _ u1 b1 hj h1
    next => exact hN _ _ _ _ _ u1 b1 hj h1
    next => exact h1.elim
  | putfield n =>
    dsimp only [rxe] at h1
    split at h1
    next => exact hN _ _ _ _ _ u1 b1 hj h1
    next => exact hN _ _ _ _ _ u1 b1 hj h1
    next => exact h1.elim
  | ifCond c n =>
    dsimp only [rxe] at h1
    split at h1
    next =>
      rcases h1 with ⟨p1, h1⟩ | ⟨p1, h1⟩
      · exact hJ _ _ (hj.1 p1) h1
      · exact hN _ _ _ _ _ u1 b1 (hj.2 p1) h1
    next => exact h1.elim
  | if_icmp c n =>
    dsimp only [rxe] at h1
    split at h1
    next =>
      rcases h1 with ⟨p1, h1⟩ | ⟨p1, h1⟩
      · exact hJ _ _ (hj.1 p1) h1
      · exact hN _ _ _ _ _ u1 b1 (hj.2 p1) h1
    next => exact h1.elim
  | tableswitch n1 n2 n3 n4 =>
    dsimp only [rxe] at h1
    split at h1
    next =>
      obtain ⟨t1, p1, h1⟩ := h1
      exact hJ _ _ (rsx_w p1 hj) h1
    next => exact h1.elim
  | lookupswitch n1 n2 =>
    dsimp only [rxe] at h1
    split at h1
    next =>
      obtain ⟨t1, p1, h1⟩ := h1
      exact hJ _ _ (rsx_w p1 hj) h1
    next => exact h1.elim
  | ireturn =>
    dsimp only [rxe] at h1
    split at h1
    next => exact hR _ hj h1
    next => exact h1.elim
  | return_ =>
    dsimp only [rxe] at h1
    split at h1
    next => exact hR _ hj h1
    next => exact h1.elim
  | getfield n =>
    dsimp only [rxe] at h1
    split at h1
    next =>
      dsimp only [ust] at hj
      cases q0 : Nat.beq a.toNat 0 with
      | true => rw [q0] at h1 hj; exact hN _ _ _ _ _ u1 b1 hj h1
      | false =>
        rw [q0] at h1 hj
        cases q1 : Nat.beq a.toNat 1 with
        | true => rw [q1] at h1 hj; exact hN _ _ _ _ _ u1 b1 hj h1
        | false =>
          rw [q1] at h1 hj
          cases q2 : Nat.beq a.toNat 2 with
          | true => rw [q2] at h1 hj; exact hN _ _ _ _ _ u1 b1 hj h1
          | false => rw [q2] at h1 hj; exact hN _ _ _ _ _ u1 b1 hj h1
    next => exact h1.elim
  | iaload =>
    dsimp only [rxe] at h1
    split at h1
    next => exact hN _ _ _ _ _ u1 b1 (hj h1.1) h1.2
    next => exact h1.elim
  | baload =>
    dsimp only [rxe] at h1
    split at h1
    next => exact hN _ _ _ _ _ u1 b1 (hj h1.1) h1.2
    next => exact h1.elim
  | laload =>
    dsimp only [rxe] at h1
    split at h1
    next => exact hN _ _ _ _ _ u1 b1 (hj h1.1) h1.2
    next => exact h1.elim
  | iastore =>
    dsimp only [rxe] at h1
    split at h1
    next => exact hN _ _ _ _ _ u1 b1 (hj h1.1) h1.2
    next => exact h1.elim
  | bastore =>
    dsimp only [rxe] at h1
    split at h1
    next => exact hN _ _ _ _ _ u1 b1 (hj h1.1) h1.2
    next => exact h1.elim
  | lastore =>
    dsimp only [rxe] at h1
    split at h1
    next => exact hN _ _ _ _ _ u1 b1 (hj h1.1) h1.2
    next => exact h1.elim
  | invokevirtual n =>
    dsimp only [rxe] at h1
    dsimp only [ust] at hj
    split at hj
    next P Q e =>
      split at h1
      next m1 r1 d1 =>
        rw [d1] at hj
        exact hC _ P Q _ _ e hj.1 hj.2 h1
      next => exact h1.elim
    next => exact hj.elim
  | _ => exact False.elim h1
def Um (μ n : Nat) (is : List RI) (Z : Option Value → RS → Prop) : RK := fun pc l1 s1 σ => ∀ (m1 : RL) (w : Option Value) (τ : RS), Uq m1 → (∀ q ∈ l1, q ∈ m1) → Ev n μ is pc m1 s1 σ w τ → Z w τ
theorem uwp_ok {jc : UC} {Z : Option Value → RS → Prop} {μ : Nat} (hjc : ∀ ν P Q, uct jc ν = some (P, Q) → UMet ν P Q) (is : List RI) : ∀ (n : Nat) (K : RK), (∀ pc l1 s1 σ, K pc l1 s1 σ → ∀ n', n' ≤ n → Um μ n' [] Z pc l1 s1 σ) → ∀ pc l1 s1 σ, uwp jc K Z is pc l1 s1 σ → ∀ n', n' ≤ n → Um μ n' is Z pc l1 s1 σ := by
  induction is with
  | nil => intro n K hK pc l1 s1 σ h n' hn; exact hK _ _ _ _ h n' hn
  | cons x is ih =>
    intro n K hK pc l1 s1 σ h n' hn m1 w τ u1 b1 e1
    cases n' with
    | zero => exact e1.elim
    | succ n' =>
      refine ust_ok u1 b1 h e1 (fun pc' a1 c1 r1 σ' v1 d1 hk q1 => ?_) (fun t r1 hk q1 => ?_) (fun v hz q1 => ?_) (fun ν P Q A1 r1 hq hp hk q1 => ?_)
      · exact ih n K hK _ _ _ _ hk n' (by omega) c1 w τ v1 d1 q1
      · exact hK _ _ _ _ hk n' (by omega) m1 w τ u1 b1 q1
      · obtain ⟨g1, g2⟩ := q1
        rw [← g1, ← g2]
        exact hz
      · obtain ⟨v, σ', g1, g2⟩ := q1
        have hz := hjc ν P Q hq A1 σ hp v σ' ⟨_, g1⟩
        exact ih n K hK _ _ _ _ (hk _ _ hz) n' (by omega) m1 w τ u1 b1 g2
theorem UMet.by {μ : Nat} {P : UP1} {Q : UQ1} (bs : RB) (jc : UC) (hv : evl μ = some bs) (hjc : ∀ ν P Q, uct jc ν = some (P, Q) → UMet ν P Q)
    (body : ∀ (A1 : List Value) (σ : RS), P A1 σ → ∀ K : Nat → RK, (∀ (n pc : Nat) (l1 : RL) (s1 : List Value) (τ : RS), (∀ m, m < n → ugo bs jc (K m) (Q A1 σ) pc l1 s1 τ) → K n pc l1 s1 τ) → (∀ (n pc : Nat) (l1 l1' : RL) (s1 : List Value) (τ : RS), (∀ q ∈ l1, q ∈ l1') → K n pc l1 s1 τ → K n pc l1' s1 τ) → ∀ n, K n 0 (lv_args 0 (.ref 1000 :: A1)) [] σ) : UMet μ P Q := by
  intro A1 σ hP w τ h1
  obtain ⟨n, h1⟩ := h1
  have hb := body A1 σ hP (fun n pc l1 s1 τ => ∀ n', n' ≤ n → Um μ n' [] (Q A1 σ) pc l1 s1 τ) (fun n pc l1 s1 τ hk n' hn => ?_) (fun n pc l1 l1' s1 τ c1 hk n' hn => ?_) n
  · exact hb n (Nat.le_refl _) _ w τ (lv_uq _ 0).1 (fun q hq => hq) h1
  · intro m1 w τ1 u1 b1 e1
    cases n' with
    | zero => exact e1.elim
    | succ n' =>
      obtain ⟨bs1, is1, g1, g2, g3⟩ := e1
      have q1 : bs1 = bs := Option.some.inj (g1.symm.trans hv)
      subst q1
      have hg := hk n' (by omega)
      unfold ugo at hg
      rw [g2] at hg
      exact uwp_ok hjc is1 n' _ (fun pc l1 s1 σ q => q) pc l1 s1 τ hg n' (Nat.le_refl _) m1 w τ1 u1 b1 g3
  · intro m1 w τ1 u1 b1 e1
    exact hk n' hn m1 w τ1 u1 (fun q hq => b1 q (c1 q hq)) e1
theorem uc0 : ∀ ν P Q, uct ([] : UC) ν = some (P, Q) → UMet ν P Q := fun _ _ _ h => by cases h
theorem ucc {μ : Nat} {P : UP1} {Q : UQ1} {r : UC} (h : UMet μ P Q) (hr : ∀ ν P Q, uct r ν = some (P, Q) → UMet ν P Q) : ∀ ν P' Q', uct ((μ, P, Q) :: r) ν = some (P', Q') → UMet ν P' Q' := by
  intro ν P' Q' e
  unfold uct at e
  cases q : Nat.beq μ ν with
  | true =>
    rw [q] at e
    have e1 : μ = ν := Nat.eq_of_beq_eq_true q
    subst e1
    cases e
    exact h
  | false => rw [q] at e; exact hr ν P' Q' e
/-- two runs, each by itself -/
theorem JMet.u {μ : Nat} {P : UP1} {Q : UQ1} (h : UMet μ P Q) : JMet μ (fun A1 A2 σ ρ => P A1 σ ∧ P A2 ρ) (fun A1 A2 σ ρ w τ w' τ' => Q A1 σ w τ ∧ Q A2 ρ w' τ') := fun A1 A2 σ ρ hP w τ w' τ' h1 h2 => ⟨h A1 σ hP.1 w τ h1, h A2 ρ hP.2 w' τ' h2⟩

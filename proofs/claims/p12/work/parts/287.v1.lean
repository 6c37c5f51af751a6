/-! what a method leaves alone; which runs it has -/
/-- fields outside M are the same, of rows the ints (900), longs (901), references (902); 999: nothing is said -/
def FrE (M : List Nat) (σ τ : CsC) : Prop := cnC σ ≤ cnC τ ∧ (M.elem 999 = false → ∀ a, a < cnC σ → (∀ k, M.elem k = false → fIC τ a k = fIC σ a k ∧ fLC τ a k = fLC σ a k ∧ fRC τ a k = fRC σ a k) ∧ (M.elem 900 = false → eIC τ a = eIC σ a) ∧ (M.elem 901 = false → eLC τ a = eLC σ a) ∧ (M.elem 902 = false → eRC τ a = eRC σ a))
theorem FrE.rf {M : List Nat} {σ : CsC} : FrE M σ σ := ⟨Nat.le_refl _, fun _ _ _ => ⟨fun _ _ => ⟨rfl, rfl, rfl⟩, fun _ => rfl, fun _ => rfl, fun _ => rfl⟩⟩
theorem FrE.tr {M : List Nat} {σ τ υ : CsC} (h : FrE M σ τ) (g : FrE M τ υ) : FrE M σ υ := ⟨Nat.le_trans h.1 g.1, fun m a ha => by
  have p := h.2 m a ha
  have q := g.2 m a (Nat.lt_of_lt_of_le ha h.1)
  exact ⟨fun k hk => ⟨(q.1 k hk).1.trans (p.1 k hk).1, (q.1 k hk).2.1.trans (p.1 k hk).2.1, (q.1 k hk).2.2.trans (p.1 k hk).2.2⟩, fun z => (q.2.1 z).trans (p.2.1 z), fun z => (q.2.2.1 z).trans (p.2.2.1 z), fun z => (q.2.2.2 z).trans (p.2.2.2 z)⟩⟩
theorem el_sb {M N : List Nat} (h : N.all (fun k => M.elem k) = true) {k : Nat} (hk : M.elem k = false) : N.elem k = false := by
  cases e : N.elem k with
  | false => rfl
  | true =>
    have := List.all_eq_true.mp h k (List.elem_iff.mp e)
    rw [hk] at this
    cases this
theorem FrE.mo {M N : List Nat} {σ τ : CsC} (h : FrE N σ τ) (hs : N.all (fun k => M.elem k) = true) : FrE M σ τ := ⟨h.1, fun m a ha => by
  have p := h.2 (el_sb hs m) a ha
  exact ⟨fun k hk => p.1 k (el_sb hs hk), fun z => p.2.1 (el_sb hs z), fun z => p.2.2.1 (el_sb hs z), fun z => p.2.2.2 (el_sb hs z)⟩⟩
theorem el_nk {M : List Nat} {j k : Nat} (hk : M.elem k = true) (hj : M.elem j = false) : j ≠ k := fun e => by rw [e, hk] at hj; cases hj
theorem FrE.pI {M : List Nat} {σ τ : CsC} {a k : Nat} {v : Int32} (h : FrE M σ τ) (hk : M.elem k = true) : FrE M σ (pIC τ a k v) := ⟨h.1, fun m b hb => ⟨fun j hj => ⟨(u2C_nk (el_nk hk hj)).trans ((h.2 m b hb).1 j hj).1, ((h.2 m b hb).1 j hj).2⟩, (h.2 m b hb).2⟩⟩
theorem FrE.pL {M : List Nat} {σ τ : CsC} {a k : Nat} {v : Int64} (h : FrE M σ τ) (hk : M.elem k = true) : FrE M σ (pLC τ a k v) := ⟨h.1, fun m b hb => ⟨fun j hj => ⟨((h.2 m b hb).1 j hj).1, (u2C_nk (el_nk hk hj)).trans ((h.2 m b hb).1 j hj).2.1, ((h.2 m b hb).1 j hj).2.2⟩, (h.2 m b hb).2⟩⟩
theorem FrE.pR {M : List Nat} {σ τ : CsC} {a k : Nat} {v : Option Nat} (h : FrE M σ τ) (hk : M.elem k = true) : FrE M σ (pRC τ a k v) := ⟨h.1, fun m b hb => ⟨fun j hj => ⟨((h.2 m b hb).1 j hj).1, ((h.2 m b hb).1 j hj).2.1, (u2C_nk (el_nk hk hj)).trans ((h.2 m b hb).1 j hj).2.2⟩, (h.2 m b hb).2⟩⟩
theorem FrE.qI {M : List Nat} {σ τ : CsC} {a : Nat} {f : Nat → Int32} (h : FrE M σ τ) (hk : M.elem 900 = true) : FrE M σ (qIC τ a f) := ⟨h.1, fun m b hb => ⟨(h.2 m b hb).1, fun z => (by rw [hk] at z; cases z), (h.2 m b hb).2.2⟩⟩
theorem FrE.qL {M : List Nat} {σ τ : CsC} {a : Nat} {f : Nat → Int64} (h : FrE M σ τ) (hk : M.elem 901 = true) : FrE M σ (qLC τ a f) := ⟨h.1, fun m b hb => ⟨(h.2 m b hb).1, (h.2 m b hb).2.1, fun z => (by rw [hk] at z; cases z), (h.2 m b hb).2.2.2⟩⟩
theorem FrE.qR {M : List Nat} {σ τ : CsC} {a : Nat} {f : Nat → Option Nat} (h : FrE M σ τ) (hk : M.elem 902 = true) : FrE M σ (qRC τ a f) := ⟨h.1, fun m b hb => ⟨(h.2 m b hb).1, (h.2 m b hb).2.1, (h.2 m b hb).2.2.1, fun z => (by rw [hk] at z; cases z)⟩⟩
theorem FrE.nO {M : List Nat} {σ τ : CsC} {t N g : Nat} (h : FrE M σ τ) : FrE M σ (nOC τ t N g) := ⟨Nat.le_trans h.1 (Nat.le_succ (cnC τ)), fun m b hb => by
  have nb : b ≠ cnC τ := Nat.ne_of_lt (Nat.lt_of_lt_of_le hb h.1)
  have p := h.2 m b hb
  refine ⟨fun k hk => ⟨?_, ?_, ?_⟩, p.2⟩
  · show u1C τ.2.2.1.1 (cnC τ) (fun _ => 0) b k = _
    rw [u1C_ne nb]
    exact (p.1 k hk).1
  · show u1C τ.2.2.1.2.1 (cnC τ) (fun _ => 0) b k = _
    rw [u1C_ne nb]
    exact (p.1 k hk).2.1
  · show u1C τ.2.2.1.2.2 (cnC τ) (fun _ => none) b k = _
    rw [u1C_ne nb]
    exact (p.1 k hk).2.2⟩
theorem FrE.nA {M : List Nat} {σ τ : CsC} {t N g : Nat} (h : FrE M σ τ) : FrE M σ (nAC τ t N g) := ⟨Nat.le_trans h.1 (Nat.le_succ (cnC τ)), fun m b hb => by
  have nb : b ≠ cnC τ := Nat.ne_of_lt (Nat.lt_of_lt_of_le hb h.1)
  have p := h.2 m b hb
  refine ⟨p.1, fun z => ?_, fun z => ?_, fun z => ?_⟩
  · show u1C τ.2.2.2.1 (cnC τ) (fun _ => 0) b = _
    rw [u1C_ne nb]
    exact p.2.1 z
  · show u1C τ.2.2.2.2.1 (cnC τ) (fun _ => 0) b = _
    rw [u1C_ne nb]
    exact p.2.2.1 z
  · show u1C τ.2.2.2.2.2 (cnC τ) (fun _ => none) b = _
    rw [u1C_ne nb]
    exact p.2.2.2 z⟩
theorem we_c {σ τ : CsC} (h : WeC σ τ) : cnC τ = cnC σ := congrArg (fun z => z.1.1) h.1
theorem we_i {σ τ : CsC} (h : WeC σ τ) : fIC τ = fIC σ := by unfold fIC; rw [h.2.1]
theorem we_l {σ τ : CsC} (h : WeC σ τ) : fLC τ = fLC σ := by unfold fLC; rw [h.2.1]
theorem we_r {σ τ : CsC} (h : WeC σ τ) : fRC τ = fRC σ := by unfold fRC; rw [h.2.1]
theorem we_ei {σ τ : CsC} (h : WeC σ τ) : eIC τ = eIC σ := by unfold eIC; rw [h.2.1]
theorem we_el {σ τ : CsC} (h : WeC σ τ) : eLC τ = eLC σ := by unfold eLC; rw [h.2.1]
theorem we_er {σ τ : CsC} (h : WeC σ τ) : eRC τ = eRC σ := by unfold eRC; rw [h.2.1]
theorem FrE.we {M : List Nat} {σ τ υ : CsC} (h : FrE M σ τ) (g : WeC τ υ) : FrE M σ υ := by
  unfold FrE
  rw [we_c g, we_i g, we_l g, we_r g, we_ei g, we_el g, we_er g]
  exact h
/-- an ERROR that is told stays told (field 217) -/
def MnE (b : Bool) (σ τ : CsC) : Prop := cnC σ ≤ cnC τ ∧ (b = true → ∀ a, a < cnC σ → ¬ fIC σ a 217 = 0 → ¬ fIC τ a 217 = 0)
theorem MnE.rf {b : Bool} {σ : CsC} : MnE b σ σ := ⟨Nat.le_refl _, fun _ _ _ h => h⟩
theorem MnE.tr {b : Bool} {σ τ υ : CsC} (h : MnE b σ τ) (g : MnE b τ υ) : MnE b σ υ := ⟨Nat.le_trans h.1 g.1, fun e a ha q => g.2 e a (Nat.lt_of_lt_of_le ha h.1) (h.2 e a ha q)⟩
theorem MnE.mo {b c : Bool} {σ τ : CsC} (h : MnE c σ τ) (hs : (!b || c) = true) : MnE b σ τ := ⟨h.1, fun e => h.2 (by rw [e] at hs; exact hs)⟩
theorem mn_ne {b : Bool} {k : Nat} (hk : (!(Nat.beq k 217) || !b) = true) (e : b = true) : 217 ≠ k := fun q => by
  rw [← q, e] at hk
  cases hk
theorem MnE.pI {b : Bool} {σ τ : CsC} {a k : Nat} {v : Int32} (h : MnE b σ τ) (hk : (!(Nat.beq k 217) || !b) = true) : MnE b σ (pIC τ a k v) := ⟨h.1, fun e c hc q => by
  rw [show fIC (pIC τ a k v) c 217 = fIC τ c 217 from u2C_nk (mn_ne hk e)]
  exact h.2 e c hc q⟩
theorem MnE.pL {b : Bool} {σ τ : CsC} {a k : Nat} {v : Int64} {p : Prop} (h : MnE b σ τ) (_ : p) : MnE b σ (pLC τ a k v) := ⟨h.1, h.2⟩
theorem MnE.pR {b : Bool} {σ τ : CsC} {a k : Nat} {v : Option Nat} {p : Prop} (h : MnE b σ τ) (_ : p) : MnE b σ (pRC τ a k v) := ⟨h.1, h.2⟩
theorem MnE.qI {b : Bool} {σ τ : CsC} {a : Nat} {f : Nat → Int32} {p : Prop} (h : MnE b σ τ) (_ : p) : MnE b σ (qIC τ a f) := ⟨h.1, h.2⟩
theorem MnE.qL {b : Bool} {σ τ : CsC} {a : Nat} {f : Nat → Int64} {p : Prop} (h : MnE b σ τ) (_ : p) : MnE b σ (qLC τ a f) := ⟨h.1, h.2⟩
theorem MnE.qR {b : Bool} {σ τ : CsC} {a : Nat} {f : Nat → Option Nat} {p : Prop} (h : MnE b σ τ) (_ : p) : MnE b σ (qRC τ a f) := ⟨h.1, h.2⟩
theorem MnE.nO {b : Bool} {σ τ : CsC} {t N g : Nat} (h : MnE b σ τ) : MnE b σ (nOC τ t N g) := ⟨Nat.le_trans h.1 (Nat.le_succ (cnC τ)), fun e c hc q => by
  show ¬ u1C τ.2.2.1.1 (cnC τ) (fun _ => 0) c 217 = 0
  rw [u1C_ne (Nat.ne_of_lt (Nat.lt_of_lt_of_le hc h.1))]
  exact h.2 e c hc q⟩
theorem MnE.nA {b : Bool} {σ τ : CsC} {t N g : Nat} (h : MnE b σ τ) : MnE b σ (nAC τ t N g) := ⟨Nat.le_trans h.1 (Nat.le_succ (cnC τ)), h.2⟩
theorem MnE.we {b : Bool} {σ τ υ : CsC} (h : MnE b σ τ) (g : WeC τ υ) : MnE b σ υ := by
  unfold MnE
  rw [we_c g, we_i g]
  exact h
def okM (b : Bool) (x : RI) : Bool := match x.1 with
  | .putfield _ => !(Nat.beq x.2.2.2.1 217) || !b
  | _ => true
/-- what an instruction writes is in M -/
def okE (M : List Nat) (x : RI) : Bool := match x.1 with
  | .putfield _ => M.elem x.2.2.2.1
  | .iastore => M.elem 900
  | .bastore => M.elem 900
  | .lastore => M.elem 901
  | .aastore => M.elem 902
  | .invokestatic _ => !(Nat.beq x.2.2.2.1 9997) || M.elem 902
  | _ => true
theorem cst_fr {M : List Nat} {σ0 : CsC} {c1 : CcC} {K1 K k1 k : CkC} {Z1 Z : Option AvC → CsC → Prop} {x : RI} {pc : Nat} {ls : ClC} {st : List AvC} {σ : CsC} (hx : okE M x = true) (hf : FrE M σ0 σ) (hc : ∀ {μ : Nat} {P : CpC} {Q : CqC}, ctC c1 μ = some (P, Q) → ∀ As σ w τ, Q As σ w τ → FrE M σ τ) (hK : ∀ t r, K1 t ls r σ → K t ls r σ) (hZ : ∀ w τ, FrE M σ0 τ → Z1 w τ → Z w τ) (hk : ∀ pc ls st σ, FrE M σ0 σ → k1 pc ls st σ → k pc ls st σ) (h1 : cstC c1 K1 Z1 x pc ls st σ k1) : cstC c1 K Z x pc ls st σ k := by
  obtain ⟨x1, len, q1, q2, cs⟩ := x
  cases x1 with
  | iconst n =>
    dsimp only [cstC] at h1 ⊢
    exact hk _ _ _ _ hf h1
  | bipush n =>
    dsimp only [cstC] at h1 ⊢
    exact hk _ _ _ _ hf h1
  | sipush n =>
    dsimp only [cstC] at h1 ⊢
    exact hk _ _ _ _ hf h1
  | lconst n =>
    dsimp only [cstC] at h1 ⊢
    exact hk _ _ _ _ hf h1
  | ldc2_w a0 =>
    dsimp only [cstC] at h1 ⊢
    exact hk _ _ _ _ hf h1
  | aconst_null =>
    dsimp only [cstC] at h1 ⊢
    exact hk _ _ _ _ hf h1
  | ldc a0 =>
    dsimp only [cstC] at h1 ⊢
    cases hb : Nat.beq q2 0 with
    | true => rw [hb] at h1; exact hk _ _ _ _ hf h1
    | false => rw [hb] at h1; exact hk _ _ _ _ hf h1
  | iload_n a0 =>
    dsimp only [cstC] at h1 ⊢
    split at h1
    next v hl =>
      try rw [hl]
      exact hk _ _ _ _ hf h1
    next => exact h1.elim
  | iload n =>
    dsimp only [cstC] at h1 ⊢
    split at h1
    next v hl =>
      try rw [hl]
      exact hk _ _ _ _ hf h1
    next => exact h1.elim
  | lload_n a0 =>
    dsimp only [cstC] at h1 ⊢
    split at h1
    next v hl =>
      try rw [hl]
      exact hk _ _ _ _ hf h1
    next => exact h1.elim
  | lload n =>
    dsimp only [cstC] at h1 ⊢
    split at h1
    next v hl =>
      try rw [hl]
      exact hk _ _ _ _ hf h1
    next => exact h1.elim
  | aload_n a0 =>
    dsimp only [cstC] at h1 ⊢
    split at h1
    next v hl =>
      try rw [hl]
      exact hk _ _ _ _ hf h1
    next => exact h1.elim
  | aload n =>
    dsimp only [cstC] at h1 ⊢
    split at h1
    next v hl =>
      try rw [hl]
      exact hk _ _ _ _ hf h1
    next => exact h1.elim
  | istore_n a0 =>
    dsimp only [cstC] at h1 ⊢
    split at h1
    next v r => exact hk _ _ _ _ hf h1
    next => exact h1.elim
  | istore n =>
    dsimp only [cstC] at h1 ⊢
    split at h1
    next v r => exact hk _ _ _ _ hf h1
    next => exact h1.elim
  | lstore_n a0 =>
    dsimp only [cstC] at h1 ⊢
    split at h1
    next v r => exact hk _ _ _ _ hf h1
    next => exact h1.elim
  | lstore n =>
    dsimp only [cstC] at h1 ⊢
    split at h1
    next v r => exact hk _ _ _ _ hf h1
    next => exact h1.elim
  | astore_n a0 =>
    dsimp only [cstC] at h1 ⊢
    split at h1
    next v r => exact hk _ _ _ _ hf h1
    next => exact h1.elim
  | astore n =>
    dsimp only [cstC] at h1 ⊢
    split at h1
    next v r => exact hk _ _ _ _ hf h1
    next => exact h1.elim
  | iinc n d =>
    dsimp only [cstC] at h1 ⊢
    split at h1
    next v hl =>
      try rw [hl]
      exact hk _ _ _ _ hf h1
    next => exact h1.elim
  | iadd =>
    dsimp only [cstC] at h1 ⊢
    split at h1
    next => exact hk _ _ _ _ hf h1
    next => exact h1.elim
  | isub =>
    dsimp only [cstC] at h1 ⊢
    split at h1
    next => exact hk _ _ _ _ hf h1
    next => exact h1.elim
  | iand =>
    dsimp only [cstC] at h1 ⊢
    split at h1
    next => exact hk _ _ _ _ hf h1
    next => exact h1.elim
  | ior =>
    dsimp only [cstC] at h1 ⊢
    split at h1
    next => exact hk _ _ _ _ hf h1
    next => exact h1.elim
  | ishr =>
    dsimp only [cstC] at h1 ⊢
    split at h1
    next => exact hk _ _ _ _ hf h1
    next => exact h1.elim
  | imul =>
    dsimp only [cstC] at h1 ⊢
    split at h1
    next => exact hk _ _ _ _ hf h1
    next => exact h1.elim
  | ishl =>
    dsimp only [cstC] at h1 ⊢
    split at h1
    next => exact hk _ _ _ _ hf h1
    next => exact h1.elim
  | iushr =>
    dsimp only [cstC] at h1 ⊢
    split at h1
    next => exact hk _ _ _ _ hf h1
    next => exact h1.elim
  | irem =>
    dsimp only [cstC] at h1 ⊢
    split at h1
    next => exact ⟨h1.1, hk _ _ _ _ hf h1.2⟩
    next => exact h1.elim
  | ladd =>
    dsimp only [cstC] at h1 ⊢
    split at h1
    next => exact hk _ _ _ _ hf h1
    next => exact h1.elim
  | lsub =>
    dsimp only [cstC] at h1 ⊢
    split at h1
    next => exact hk _ _ _ _ hf h1
    next => exact h1.elim
  | lmul =>
    dsimp only [cstC] at h1 ⊢
    split at h1
    next => exact hk _ _ _ _ hf h1
    next => exact h1.elim
  | land =>
    dsimp only [cstC] at h1 ⊢
    split at h1
    next => exact hk _ _ _ _ hf h1
    next => exact h1.elim
  | lor =>
    dsimp only [cstC] at h1 ⊢
    split at h1
    next => exact hk _ _ _ _ hf h1
    next => exact h1.elim
  | lxor =>
    dsimp only [cstC] at h1 ⊢
    split at h1
    next => exact hk _ _ _ _ hf h1
    next => exact h1.elim
  | ldiv =>
    dsimp only [cstC] at h1 ⊢
    split at h1
    next => exact ⟨h1.1, hk _ _ _ _ hf h1.2⟩
    next => exact h1.elim
  | lrem =>
    dsimp only [cstC] at h1 ⊢
    split at h1
    next => exact ⟨h1.1, hk _ _ _ _ hf h1.2⟩
    next => exact h1.elim
  | lshl =>
    dsimp only [cstC] at h1 ⊢
    split at h1
    next => exact hk _ _ _ _ hf h1
    next => exact h1.elim
  | lshr =>
    dsimp only [cstC] at h1 ⊢
    split at h1
    next => exact hk _ _ _ _ hf h1
    next => exact h1.elim
  | lushr =>
    dsimp only [cstC] at h1 ⊢
    split at h1
    next => exact hk _ _ _ _ hf h1
    next => exact h1.elim
  | lneg =>
    dsimp only [cstC] at h1 ⊢
    split at h1
    next => exact hk _ _ _ _ hf h1
    next => exact h1.elim
  | i2l =>
    dsimp only [cstC] at h1 ⊢
    split at h1
    next => exact hk _ _ _ _ hf h1
    next => exact h1.elim
  | l2i =>
    dsimp only [cstC] at h1 ⊢
    split at h1
    next => exact hk _ _ _ _ hf h1
    next => exact h1.elim
  | i2b =>
    dsimp only [cstC] at h1 ⊢
    split at h1
    next => exact hk _ _ _ _ hf h1
    next => exact h1.elim
  | i2c =>
    dsimp only [cstC] at h1 ⊢
    split at h1
    next => exact hk _ _ _ _ hf h1
    next => exact h1.elim
  | lcmp =>
    dsimp only [cstC] at h1 ⊢
    split at h1
    next => exact hk _ _ _ _ hf h1
    next => exact h1.elim
  | dup =>
    dsimp only [cstC] at h1 ⊢
    split at h1
    next => exact hk _ _ _ _ hf h1
    next => exact hk _ _ _ _ hf h1
    next => exact h1.elim
  | dup_x1 =>
    dsimp only [cstC] at h1 ⊢
    split at h1
    next => exact hk _ _ _ _ hf h1
    next => exact hk _ _ _ _ hf h1
    next => exact h1.elim
  | pop =>
    dsimp only [cstC] at h1 ⊢
    split at h1
    next => exact hk _ _ _ _ hf h1
    next => exact hk _ _ _ _ hf h1
    next => exact h1.elim
  | pop2 =>
    dsimp only [cstC] at h1 ⊢
    split at h1
    next => exact hk _ _ _ _ hf h1
    next => exact h1.elim
  | ifCond c a1 =>
    dsimp only [cstC] at h1 ⊢
    split at h1
    next => exact ⟨fun q => hK _ _ (h1.1 q), fun q => hk _ _ _ _ hf (h1.2 q)⟩
    next => exact h1.elim
  | if_icmp c a1 =>
    dsimp only [cstC] at h1 ⊢
    split at h1
    next => exact ⟨fun q => hK _ _ (h1.1 q), fun q => hk _ _ _ _ hf (h1.2 q)⟩
    next => exact h1.elim
  | ifnull a0 =>
    dsimp only [cstC] at h1 ⊢
    split at h1
    next => exact ⟨fun q => hK _ _ (h1.1 q), fun a q => hk _ _ _ _ hf (h1.2 a q)⟩
    next => exact h1.elim
  | ifnonnull a0 =>
    dsimp only [cstC] at h1 ⊢
    split at h1
    next => exact ⟨fun a q => hK _ _ (h1.1 a q), fun q => hk _ _ _ _ hf (h1.2 q)⟩
    next => exact h1.elim
  | if_acmp c a1 =>
    dsimp only [cstC] at h1 ⊢
    split at h1
    next =>
      cases c with
      | eq => exact ⟨⟨fun q => hK _ _ (h1.1.1 q), fun q => hk _ _ _ _ hf (h1.1.2 q)⟩, h1.2⟩
      | ne => exact ⟨⟨fun q => hK _ _ (h1.1.1 q), fun q => hk _ _ _ _ hf (h1.1.2 q)⟩, h1.2⟩
    next => exact h1.elim
  | goto a0 =>
    dsimp only [cstC] at h1 ⊢
    exact hK _ _ h1
  | tableswitch a0 a1 a2 a3 =>
    dsimp only [cstC] at h1 ⊢
    split at h1
    next => exact rsw_1 h1 (fun t a => hK _ _ a)
    next => exact h1.elim
  | lookupswitch a0 a1 =>
    dsimp only [cstC] at h1 ⊢
    split at h1
    next => exact rsw_1 h1 (fun t a => hK _ _ a)
    next => exact h1.elim
  | ireturn =>
    dsimp only [cstC] at h1 ⊢
    split at h1
    next => exact ⟨h1.1, hZ _ _ hf h1.2⟩
    next => exact h1.elim
  | lreturn =>
    dsimp only [cstC] at h1 ⊢
    split at h1
    next => exact hZ _ _ hf h1
    next => exact h1.elim
  | areturn =>
    dsimp only [cstC] at h1 ⊢
    split at h1
    next => exact hZ _ _ hf h1
    next => exact h1.elim
  | return_ =>
    dsimp only [cstC] at h1 ⊢
    split at h1
    next => obtain ⟨τ, a, b⟩ := h1; exact ⟨τ, a, hZ _ _ (hf.we a) b⟩
    next => exact h1.elim
  | getfield a0 =>
    dsimp only [cstC] at h1 ⊢
    split at h1
    next => obtain ⟨a, rfl, p1, b⟩ := h1; exact ⟨a, rfl, p1, hk _ _ _ _ hf b⟩
    next => exact h1.elim
  | putfield a0 =>
    dsimp only [cstC] at h1 ⊢
    have hx : M.elem q2 = true := hx
    split at h1
    next => obtain ⟨a, rfl, p1, p2, b⟩ := h1; exact ⟨a, rfl, p1, p2, hk _ _ _ _ (hf.pI hx) b⟩
    next => obtain ⟨a, rfl, p1, p2, b⟩ := h1; exact ⟨a, rfl, p1, p2, hk _ _ _ _ (hf.pL hx) b⟩
    next => obtain ⟨a, rfl, p1, p2, b⟩ := h1; exact ⟨a, rfl, p1, p2, hk _ _ _ _ (hf.pR hx) b⟩
    next => exact h1.elim
  | baload =>
    dsimp only [cstC] at h1 ⊢
    split at h1
    next => obtain ⟨a, rfl, p1, p2, b⟩ := h1; exact ⟨a, rfl, p1, p2, hk _ _ _ _ hf b⟩
    next => exact h1.elim
  | laload =>
    dsimp only [cstC] at h1 ⊢
    split at h1
    next => obtain ⟨a, rfl, p1, p2, b⟩ := h1; exact ⟨a, rfl, p1, p2, hk _ _ _ _ hf b⟩
    next => exact h1.elim
  | iaload =>
    dsimp only [cstC] at h1 ⊢
    split at h1
    next =>
      obtain ⟨a, rfl, ⟨p1, p2, b⟩ | ⟨p1, p2, b⟩ | ⟨p1, p2, b⟩⟩ := h1
      · exact ⟨a, rfl, Or.inl ⟨p1, p2, hk _ _ _ _ hf b⟩⟩
      · exact ⟨a, rfl, Or.inr (Or.inl ⟨p1, p2, hk _ _ _ _ hf b⟩)⟩
      · exact ⟨a, rfl, Or.inr (Or.inr ⟨p1, p2, hk _ _ _ _ hf b⟩)⟩
    next => exact h1.elim
  | aaload =>
    dsimp only [cstC] at h1 ⊢
    split at h1
    next => obtain ⟨a, t, rfl, p1, p2, p3, b⟩ := h1; exact ⟨a, t, rfl, p1, p2, p3, hk _ _ _ _ hf b⟩
    next => exact h1.elim
  | iastore =>
    dsimp only [cstC] at h1 ⊢
    split at h1
    next => obtain ⟨a, rfl, p1, p2, b⟩ := h1; exact ⟨a, rfl, p1, p2, hk _ _ _ _ (hf.qI hx) b⟩
    next => exact h1.elim
  | bastore =>
    dsimp only [cstC] at h1 ⊢
    split at h1
    next => obtain ⟨a, rfl, p1, p2, b⟩ := h1; exact ⟨a, rfl, p1, p2, hk _ _ _ _ (hf.qI hx) b⟩
    next => exact h1.elim
  | lastore =>
    dsimp only [cstC] at h1 ⊢
    split at h1
    next => obtain ⟨a, rfl, p1, p2, b⟩ := h1; exact ⟨a, rfl, p1, p2, hk _ _ _ _ (hf.qL hx) b⟩
    next => exact h1.elim
  | aastore =>
    dsimp only [cstC] at h1 ⊢
    split at h1
    next => obtain ⟨a, t, rfl, p1, p2, p3, p4, b⟩ := h1; exact ⟨a, t, rfl, p1, p2, p3, p4, hk _ _ _ _ (hf.qR hx) b⟩
    next => exact h1.elim
  | arraylength =>
    dsimp only [cstC] at h1 ⊢
    split at h1
    next =>
      obtain ⟨a, rfl, ⟨p1, p2, p3, p4, b⟩ | ⟨n, p1, b⟩⟩ := h1
      · exact ⟨a, rfl, Or.inl ⟨p1, p2, p3, p4, hk _ _ _ _ hf b⟩⟩
      · exact ⟨a, rfl, Or.inr ⟨n, p1, hk _ _ _ _ hf b⟩⟩
    next => exact h1.elim
  | newarray a0 =>
    dsimp only [cstC] at h1 ⊢
    split at h1
    next => exact ⟨h1.1, h1.2.1, h1.2.2.1, h1.2.2.2.1, hk _ _ _ _ (hf.nA) h1.2.2.2.2⟩
    next => exact h1.elim
  | anewarray a0 =>
    dsimp only [cstC] at h1 ⊢
    split at h1
    next => exact ⟨h1.1, h1.2.1, h1.2.2.1, h1.2.2.2.1, hk _ _ _ _ (hf.nA) h1.2.2.2.2⟩
    next => exact h1.elim
  | new a0 =>
    dsimp only [cstC] at h1 ⊢
    exact ⟨h1.1, h1.2.1, hk _ _ _ _ (hf.nO) h1.2.2⟩
  | checkcast a0 =>
    dsimp only [cstC] at h1 ⊢
    split at h1
    next => exact hk _ _ _ _ hf h1
    next => exact ⟨h1.1, hk _ _ _ _ hf h1.2⟩
    next => exact h1.elim
  | getstatic a0 =>
    dsimp only [cstC] at h1 ⊢
    exact hk _ _ _ _ hf h1
  | invokevirtual a0 =>
    dsimp only [cstC] at h1 ⊢
    cases hb : Nat.beq q2 9998 with
    | true =>
      simp only [hb] at h1 ⊢
      split at h1
      next => obtain ⟨a, rfl, p1, p2, b⟩ := h1; exact ⟨a, rfl, p1, p2, hk _ _ _ _ hf b⟩
      next => exact h1.elim
    | false =>
      simp only [hb] at h1 ⊢
      split at h1
      next P Q hq =>
        try rw [hq]
        try dsimp only
        split at h1
        next a r hr =>
          try simp only [hr]
          exact ⟨h1.1, h1.2.1, h1.2.2.1, fun w τ q => hk _ _ _ _ (hf.tr (hc hq _ _ _ _ q)) (h1.2.2.2 w τ q)⟩
        next => exact h1.elim
      next => exact h1.elim
  | invokespecial a0 =>
    dsimp only [cstC] at h1 ⊢
    cases hb : Nat.beq q2 9999 with
    | true =>
      simp only [hb] at h1 ⊢
      split at h1
      next => exact ⟨h1.1, hk _ _ _ _ hf h1.2⟩
      next => exact h1.elim
    | false =>
      simp only [hb] at h1 ⊢
      split at h1
      next P Q hq =>
        try rw [hq]
        try dsimp only
        split at h1
        next a r hr =>
          try simp only [hr]
          exact ⟨h1.1, h1.2.1, fun w τ q => hk _ _ _ _ (hf.tr (hc hq _ _ _ _ q)) (h1.2.2 w τ q)⟩
        next => exact h1.elim
      next => exact h1.elim
  | invokestatic a0 =>
    dsimp only [cstC] at h1 ⊢
    have hx : Nat.ble 9990 q2 = true → Nat.beq q2 9997 = true → M.elem 902 = true := fun _ e => by
      have hx : (!(Nat.beq q2 9997) || M.elem 902) = true := hx
      rw [e] at hx
      exact hx
    cases hb : Nat.ble 9990 q2 with
    | true =>
      simp only [hb] at h1 ⊢
      cases hc9 : Nat.beq q2 9997 with
      | true =>
        simp only [hc9] at h1 ⊢
        split at h1
        next => obtain ⟨a, b, rfl, rfl, p1, p2, p3, p4, p5, p6, z⟩ := h1; exact ⟨a, b, rfl, rfl, p1, p2, p3, p4, p5, p6, hk _ _ _ _ (hf.qR (hx hb hc9)) z⟩
        next => exact h1.elim
      | false =>
        simp only [hc9] at h1 ⊢
        cases hd : Nat.beq q2 9996 with
        | true =>
          simp only [hd] at h1 ⊢
          split at h1
          next => exact ⟨h1.1, hk _ _ _ _ hf h1.2⟩
          next => exact h1.elim
        | false =>
          simp only [hd] at h1 ⊢
          split at h1
          next => exact ⟨h1.1, hk _ _ _ _ hf h1.2⟩
          next => exact h1.elim
    | false =>
      simp only [hb] at h1 ⊢
      split at h1
      next P Q hq =>
        try rw [hq]
        try dsimp only
        exact ⟨h1.1, h1.2.1, h1.2.2.1, fun w τ q => hk _ _ _ _ (hf.tr (hc hq _ _ _ _ q)) (h1.2.2.2 w τ q)⟩
      next => exact h1.elim
  | _ => exact h1.elim
theorem cst_mn {b0 : Bool} {σ0 : CsC} {c1 : CcC} {K1 K k1 k : CkC} {Z1 Z : Option AvC → CsC → Prop} {x : RI} {pc : Nat} {ls : ClC} {st : List AvC} {σ : CsC} (hx : okM b0 x = true) (hf : MnE b0 σ0 σ) (hc : ∀ {μ : Nat} {P : CpC} {Q : CqC}, ctC c1 μ = some (P, Q) → ∀ As σ w τ, Q As σ w τ → MnE b0 σ τ) (hK : ∀ t r, K1 t ls r σ → K t ls r σ) (hZ : ∀ w τ, MnE b0 σ0 τ → Z1 w τ → Z w τ) (hk : ∀ pc ls st σ, MnE b0 σ0 σ → k1 pc ls st σ → k pc ls st σ) (h1 : cstC c1 K1 Z1 x pc ls st σ k1) : cstC c1 K Z x pc ls st σ k := by
  obtain ⟨x1, len, q1, q2, cs⟩ := x
  cases x1 with
  | iconst n =>
    dsimp only [cstC] at h1 ⊢
    exact hk _ _ _ _ hf h1
  | bipush n =>
    dsimp only [cstC] at h1 ⊢
    exact hk _ _ _ _ hf h1
  | sipush n =>
    dsimp only [cstC] at h1 ⊢
    exact hk _ _ _ _ hf h1
  | lconst n =>
    dsimp only [cstC] at h1 ⊢
    exact hk _ _ _ _ hf h1
  | ldc2_w a0 =>
    dsimp only [cstC] at h1 ⊢
    exact hk _ _ _ _ hf h1
  | aconst_null =>
    dsimp only [cstC] at h1 ⊢
    exact hk _ _ _ _ hf h1
  | ldc a0 =>
    dsimp only [cstC] at h1 ⊢
    cases hb : Nat.beq q2 0 with
    | true => rw [hb] at h1; exact hk _ _ _ _ hf h1
    | false => rw [hb] at h1; exact hk _ _ _ _ hf h1
  | iload_n a0 =>
    dsimp only [cstC] at h1 ⊢
    split at h1
    next v hl =>
      try rw [hl]
      exact hk _ _ _ _ hf h1
    next => exact h1.elim
  | iload n =>
    dsimp only [cstC] at h1 ⊢
    split at h1
    next v hl =>
      try rw [hl]
      exact hk _ _ _ _ hf h1
    next => exact h1.elim
  | lload_n a0 =>
    dsimp only [cstC] at h1 ⊢
    split at h1
    next v hl =>
      try rw [hl]
      exact hk _ _ _ _ hf h1
    next => exact h1.elim
  | lload n =>
    dsimp only [cstC] at h1 ⊢
    split at h1
    next v hl =>
      try rw [hl]
      exact hk _ _ _ _ hf h1
    next => exact h1.elim
  | aload_n a0 =>
    dsimp only [cstC] at h1 ⊢
    split at h1
    next v hl =>
      try rw [hl]
      exact hk _ _ _ _ hf h1
    next => exact h1.elim
  | aload n =>
    dsimp only [cstC] at h1 ⊢
    split at h1
    next v hl =>
      try rw [hl]
      exact hk _ _ _ _ hf h1
    next => exact h1.elim
  | istore_n a0 =>
    dsimp only [cstC] at h1 ⊢
    split at h1
    next v r => exact hk _ _ _ _ hf h1
    next => exact h1.elim
  | istore n =>
    dsimp only [cstC] at h1 ⊢
    split at h1
    next v r => exact hk _ _ _ _ hf h1
    next => exact h1.elim
  | lstore_n a0 =>
    dsimp only [cstC] at h1 ⊢
    split at h1
    next v r => exact hk _ _ _ _ hf h1
    next => exact h1.elim
  | lstore n =>
    dsimp only [cstC] at h1 ⊢
    split at h1
    next v r => exact hk _ _ _ _ hf h1
    next => exact h1.elim
  | astore_n a0 =>
    dsimp only [cstC] at h1 ⊢
    split at h1
    next v r => exact hk _ _ _ _ hf h1
    next => exact h1.elim
  | astore n =>
    dsimp only [cstC] at h1 ⊢
    split at h1
    next v r => exact hk _ _ _ _ hf h1
    next => exact h1.elim
  | iinc n d =>
    dsimp only [cstC] at h1 ⊢
    split at h1
    next v hl =>
      try rw [hl]
      exact hk _ _ _ _ hf h1
    next => exact h1.elim
  | iadd =>
    dsimp only [cstC] at h1 ⊢
    split at h1
    next => exact hk _ _ _ _ hf h1
    next => exact h1.elim
  | isub =>
    dsimp only [cstC] at h1 ⊢
    split at h1
    next => exact hk _ _ _ _ hf h1
    next => exact h1.elim
  | iand =>
    dsimp only [cstC] at h1 ⊢
    split at h1
    next => exact hk _ _ _ _ hf h1
    next => exact h1.elim
  | ior =>
    dsimp only [cstC] at h1 ⊢
    split at h1
    next => exact hk _ _ _ _ hf h1
    next => exact h1.elim
  | ishr =>
    dsimp only [cstC] at h1 ⊢
    split at h1
    next => exact hk _ _ _ _ hf h1
    next => exact h1.elim
  | imul =>
    dsimp only [cstC] at h1 ⊢
    split at h1
    next => exact hk _ _ _ _ hf h1
    next => exact h1.elim
  | ishl =>
    dsimp only [cstC] at h1 ⊢
    split at h1
    next => exact hk _ _ _ _ hf h1
    next => exact h1.elim
  | iushr =>
    dsimp only [cstC] at h1 ⊢
    split at h1
    next => exact hk _ _ _ _ hf h1
    next => exact h1.elim
  | irem =>
    dsimp only [cstC] at h1 ⊢
    split at h1
    next => exact ⟨h1.1, hk _ _ _ _ hf h1.2⟩
    next => exact h1.elim
  | ladd =>
    dsimp only [cstC] at h1 ⊢
    split at h1
    next => exact hk _ _ _ _ hf h1
    next => exact h1.elim
  | lsub =>
    dsimp only [cstC] at h1 ⊢
    split at h1
    next => exact hk _ _ _ _ hf h1
    next => exact h1.elim
  | lmul =>
    dsimp only [cstC] at h1 ⊢
    split at h1
    next => exact hk _ _ _ _ hf h1
    next => exact h1.elim
  | land =>
    dsimp only [cstC] at h1 ⊢
    split at h1
    next => exact hk _ _ _ _ hf h1
    next => exact h1.elim
  | lor =>
    dsimp only [cstC] at h1 ⊢
    split at h1
    next => exact hk _ _ _ _ hf h1
    next => exact h1.elim
  | lxor =>
    dsimp only [cstC] at h1 ⊢
    split at h1
    next => exact hk _ _ _ _ hf h1
    next => exact h1.elim
  | ldiv =>
    dsimp only [cstC] at h1 ⊢
    split at h1
    next => exact ⟨h1.1, hk _ _ _ _ hf h1.2⟩
    next => exact h1.elim
  | lrem =>
    dsimp only [cstC] at h1 ⊢
    split at h1
    next => exact ⟨h1.1, hk _ _ _ _ hf h1.2⟩
    next => exact h1.elim
  | lshl =>
    dsimp only [cstC] at h1 ⊢
    split at h1
    next => exact hk _ _ _ _ hf h1
    next => exact h1.elim
  | lshr =>
    dsimp only [cstC] at h1 ⊢
    split at h1
    next => exact hk _ _ _ _ hf h1
    next => exact h1.elim
  | lushr =>
    dsimp only [cstC] at h1 ⊢
    split at h1
    next => exact hk _ _ _ _ hf h1
    next => exact h1.elim
  | lneg =>
    dsimp only [cstC] at h1 ⊢
    split at h1
    next => exact hk _ _ _ _ hf h1
    next => exact h1.elim
  | i2l =>
    dsimp only [cstC] at h1 ⊢
    split at h1
    next => exact hk _ _ _ _ hf h1
    next => exact h1.elim
  | l2i =>
    dsimp only [cstC] at h1 ⊢
    split at h1
    next => exact hk _ _ _ _ hf h1
    next => exact h1.elim
  | i2b =>
    dsimp only [cstC] at h1 ⊢
    split at h1
    next => exact hk _ _ _ _ hf h1
    next => exact h1.elim
  | i2c =>
    dsimp only [cstC] at h1 ⊢
    split at h1
    next => exact hk _ _ _ _ hf h1
    next => exact h1.elim
  | lcmp =>
    dsimp only [cstC] at h1 ⊢
    split at h1
    next => exact hk _ _ _ _ hf h1
    next => exact h1.elim
  | dup =>
    dsimp only [cstC] at h1 ⊢
    split at h1
    next => exact hk _ _ _ _ hf h1
    next => exact hk _ _ _ _ hf h1
    next => exact h1.elim
  | dup_x1 =>
    dsimp only [cstC] at h1 ⊢
    split at h1
    next => exact hk _ _ _ _ hf h1
    next => exact hk _ _ _ _ hf h1
    next => exact h1.elim
  | pop =>
    dsimp only [cstC] at h1 ⊢
    split at h1
    next => exact hk _ _ _ _ hf h1
    next => exact hk _ _ _ _ hf h1
    next => exact h1.elim
  | pop2 =>
    dsimp only [cstC] at h1 ⊢
    split at h1
    next => exact hk _ _ _ _ hf h1
    next => exact h1.elim
  | ifCond c a1 =>
    dsimp only [cstC] at h1 ⊢
    split at h1
    next => exact ⟨fun q => hK _ _ (h1.1 q), fun q => hk _ _ _ _ hf (h1.2 q)⟩
    next => exact h1.elim
  | if_icmp c a1 =>
    dsimp only [cstC] at h1 ⊢
    split at h1
    next => exact ⟨fun q => hK _ _ (h1.1 q), fun q => hk _ _ _ _ hf (h1.2 q)⟩
    next => exact h1.elim
  | ifnull a0 =>
    dsimp only [cstC] at h1 ⊢
    split at h1
    next => exact ⟨fun q => hK _ _ (h1.1 q), fun a q => hk _ _ _ _ hf (h1.2 a q)⟩
    next => exact h1.elim
  | ifnonnull a0 =>
    dsimp only [cstC] at h1 ⊢
    split at h1
    next => exact ⟨fun a q => hK _ _ (h1.1 a q), fun q => hk _ _ _ _ hf (h1.2 q)⟩
    next => exact h1.elim
  | if_acmp c a1 =>
    dsimp only [cstC] at h1 ⊢
    split at h1
    next =>
      cases c with
      | eq => exact ⟨⟨fun q => hK _ _ (h1.1.1 q), fun q => hk _ _ _ _ hf (h1.1.2 q)⟩, h1.2⟩
      | ne => exact ⟨⟨fun q => hK _ _ (h1.1.1 q), fun q => hk _ _ _ _ hf (h1.1.2 q)⟩, h1.2⟩
    next => exact h1.elim
  | goto a0 =>
    dsimp only [cstC] at h1 ⊢
    exact hK _ _ h1
  | tableswitch a0 a1 a2 a3 =>
    dsimp only [cstC] at h1 ⊢
    split at h1
    next => exact rsw_1 h1 (fun t a => hK _ _ a)
    next => exact h1.elim
  | lookupswitch a0 a1 =>
    dsimp only [cstC] at h1 ⊢
    split at h1
    next => exact rsw_1 h1 (fun t a => hK _ _ a)
    next => exact h1.elim
  | ireturn =>
    dsimp only [cstC] at h1 ⊢
    split at h1
    next => exact ⟨h1.1, hZ _ _ hf h1.2⟩
    next => exact h1.elim
  | lreturn =>
    dsimp only [cstC] at h1 ⊢
    split at h1
    next => exact hZ _ _ hf h1
    next => exact h1.elim
  | areturn =>
    dsimp only [cstC] at h1 ⊢
    split at h1
    next => exact hZ _ _ hf h1
    next => exact h1.elim
  | return_ =>
    dsimp only [cstC] at h1 ⊢
    split at h1
    next => obtain ⟨τ, a, b⟩ := h1; exact ⟨τ, a, hZ _ _ (hf.we a) b⟩
    next => exact h1.elim
  | getfield a0 =>
    dsimp only [cstC] at h1 ⊢
    split at h1
    next => obtain ⟨a, rfl, p1, b⟩ := h1; exact ⟨a, rfl, p1, hk _ _ _ _ hf b⟩
    next => exact h1.elim
  | putfield a0 =>
    dsimp only [cstC] at h1 ⊢
    have hx : (!(Nat.beq q2 217) || !b0) = true := hx
    split at h1
    next => obtain ⟨a, rfl, p1, p2, b⟩ := h1; exact ⟨a, rfl, p1, p2, hk _ _ _ _ (hf.pI hx) b⟩
    next => obtain ⟨a, rfl, p1, p2, b⟩ := h1; exact ⟨a, rfl, p1, p2, hk _ _ _ _ (hf.pL hx) b⟩
    next => obtain ⟨a, rfl, p1, p2, b⟩ := h1; exact ⟨a, rfl, p1, p2, hk _ _ _ _ (hf.pR hx) b⟩
    next => exact h1.elim
  | baload =>
    dsimp only [cstC] at h1 ⊢
    split at h1
    next => obtain ⟨a, rfl, p1, p2, b⟩ := h1; exact ⟨a, rfl, p1, p2, hk _ _ _ _ hf b⟩
    next => exact h1.elim
  | laload =>
    dsimp only [cstC] at h1 ⊢
    split at h1
    next => obtain ⟨a, rfl, p1, p2, b⟩ := h1; exact ⟨a, rfl, p1, p2, hk _ _ _ _ hf b⟩
    next => exact h1.elim
  | iaload =>
    dsimp only [cstC] at h1 ⊢
    split at h1
    next =>
      obtain ⟨a, rfl, ⟨p1, p2, b⟩ | ⟨p1, p2, b⟩ | ⟨p1, p2, b⟩⟩ := h1
      · exact ⟨a, rfl, Or.inl ⟨p1, p2, hk _ _ _ _ hf b⟩⟩
      · exact ⟨a, rfl, Or.inr (Or.inl ⟨p1, p2, hk _ _ _ _ hf b⟩)⟩
      · exact ⟨a, rfl, Or.inr (Or.inr ⟨p1, p2, hk _ _ _ _ hf b⟩)⟩
    next => exact h1.elim
  | aaload =>
    dsimp only [cstC] at h1 ⊢
    split at h1
    next => obtain ⟨a, t, rfl, p1, p2, p3, b⟩ := h1; exact ⟨a, t, rfl, p1, p2, p3, hk _ _ _ _ hf b⟩
    next => exact h1.elim
  | iastore =>
    dsimp only [cstC] at h1 ⊢
    split at h1
    next => obtain ⟨a, rfl, p1, p2, b⟩ := h1; exact ⟨a, rfl, p1, p2, hk _ _ _ _ (hf.qI hx) b⟩
    next => exact h1.elim
  | bastore =>
    dsimp only [cstC] at h1 ⊢
    split at h1
    next => obtain ⟨a, rfl, p1, p2, b⟩ := h1; exact ⟨a, rfl, p1, p2, hk _ _ _ _ (hf.qI hx) b⟩
    next => exact h1.elim
  | lastore =>
    dsimp only [cstC] at h1 ⊢
    split at h1
    next => obtain ⟨a, rfl, p1, p2, b⟩ := h1; exact ⟨a, rfl, p1, p2, hk _ _ _ _ (hf.qL hx) b⟩
    next => exact h1.elim
  | aastore =>
    dsimp only [cstC] at h1 ⊢
    split at h1
    next => obtain ⟨a, t, rfl, p1, p2, p3, p4, b⟩ := h1; exact ⟨a, t, rfl, p1, p2, p3, p4, hk _ _ _ _ (hf.qR hx) b⟩
    next => exact h1.elim
  | arraylength =>
    dsimp only [cstC] at h1 ⊢
    split at h1
    next =>
      obtain ⟨a, rfl, ⟨p1, p2, p3, p4, b⟩ | ⟨n, p1, b⟩⟩ := h1
      · exact ⟨a, rfl, Or.inl ⟨p1, p2, p3, p4, hk _ _ _ _ hf b⟩⟩
      · exact ⟨a, rfl, Or.inr ⟨n, p1, hk _ _ _ _ hf b⟩⟩
    next => exact h1.elim
  | newarray a0 =>
    dsimp only [cstC] at h1 ⊢
    split at h1
    next => exact ⟨h1.1, h1.2.1, h1.2.2.1, h1.2.2.2.1, hk _ _ _ _ (hf.nA) h1.2.2.2.2⟩
    next => exact h1.elim
  | anewarray a0 =>
    dsimp only [cstC] at h1 ⊢
    split at h1
    next => exact ⟨h1.1, h1.2.1, h1.2.2.1, h1.2.2.2.1, hk _ _ _ _ (hf.nA) h1.2.2.2.2⟩
    next => exact h1.elim
  | new a0 =>
    dsimp only [cstC] at h1 ⊢
    exact ⟨h1.1, h1.2.1, hk _ _ _ _ (hf.nO) h1.2.2⟩
  | checkcast a0 =>
    dsimp only [cstC] at h1 ⊢
    split at h1
    next => exact hk _ _ _ _ hf h1
    next => exact ⟨h1.1, hk _ _ _ _ hf h1.2⟩
    next => exact h1.elim
  | getstatic a0 =>
    dsimp only [cstC] at h1 ⊢
    exact hk _ _ _ _ hf h1
  | invokevirtual a0 =>
    dsimp only [cstC] at h1 ⊢
    cases hb : Nat.beq q2 9998 with
    | true =>
      simp only [hb] at h1 ⊢
      split at h1
      next => obtain ⟨a, rfl, p1, p2, b⟩ := h1; exact ⟨a, rfl, p1, p2, hk _ _ _ _ hf b⟩
      next => exact h1.elim
    | false =>
      simp only [hb] at h1 ⊢
      split at h1
      next P Q hq =>
        try rw [hq]
        try dsimp only
        split at h1
        next a r hr =>
          try simp only [hr]
          exact ⟨h1.1, h1.2.1, h1.2.2.1, fun w τ q => hk _ _ _ _ (hf.tr (hc hq _ _ _ _ q)) (h1.2.2.2 w τ q)⟩
        next => exact h1.elim
      next => exact h1.elim
  | invokespecial a0 =>
    dsimp only [cstC] at h1 ⊢
    cases hb : Nat.beq q2 9999 with
    | true =>
      simp only [hb] at h1 ⊢
      split at h1
      next => exact ⟨h1.1, hk _ _ _ _ hf h1.2⟩
      next => exact h1.elim
    | false =>
      simp only [hb] at h1 ⊢
      split at h1
      next P Q hq =>
        try rw [hq]
        try dsimp only
        split at h1
        next a r hr =>
          try simp only [hr]
          exact ⟨h1.1, h1.2.1, fun w τ q => hk _ _ _ _ (hf.tr (hc hq _ _ _ _ q)) (h1.2.2 w τ q)⟩
        next => exact h1.elim
      next => exact h1.elim
  | invokestatic a0 =>
    dsimp only [cstC] at h1 ⊢
    have hx : Nat.ble 9990 q2 = true → Nat.beq q2 9997 = true → True := fun _ _ => trivial
    cases hb : Nat.ble 9990 q2 with
    | true =>
      simp only [hb] at h1 ⊢
      cases hc9 : Nat.beq q2 9997 with
      | true =>
        simp only [hc9] at h1 ⊢
        split at h1
        next => obtain ⟨a, b, rfl, rfl, p1, p2, p3, p4, p5, p6, z⟩ := h1; exact ⟨a, b, rfl, rfl, p1, p2, p3, p4, p5, p6, hk _ _ _ _ (hf.qR (hx hb hc9)) z⟩
        next => exact h1.elim
      | false =>
        simp only [hc9] at h1 ⊢
        cases hd : Nat.beq q2 9996 with
        | true =>
          simp only [hd] at h1 ⊢
          split at h1
          next => exact ⟨h1.1, hk _ _ _ _ hf h1.2⟩
          next => exact h1.elim
        | false =>
          simp only [hd] at h1 ⊢
          split at h1
          next => exact ⟨h1.1, hk _ _ _ _ hf h1.2⟩
          next => exact h1.elim
    | false =>
      simp only [hb] at h1 ⊢
      split at h1
      next P Q hq =>
        try rw [hq]
        try dsimp only
        exact ⟨h1.1, h1.2.1, h1.2.2.1, fun w τ q => hk _ _ _ _ (hf.tr (hc hq _ _ _ _ q)) (h1.2.2.2 w τ q)⟩
      next => exact h1.elim
  | _ => exact h1.elim
/-- who is called tells less -/
def MoQ (c1 : CcC) (ct : UcC) (c1' : CcC) (ct' : UcC) : Prop := ∀ μ P' Q', ctC c1' μ = some (P', Q') → ∃ P Q, ctC c1 μ = some (P, Q) ∧ ∀ As σ w τ, Q' As σ w τ → uqC ct' μ As σ w τ → Q As σ w τ ∧ uqC ct μ As σ w τ
theorem ucs_mo {c1 c1' : CcC} {ct ct' : UcC} {K K' k k' : CkC} {Z Z' : Option AvC → CsC → Prop} {x : RI} {pc : Nat} {ls : ClC} {st : List AvC} {σ : CsC} (hc : MoQ c1 ct c1' ct') (hK : ∀ t r, K t ls r σ → K' t ls r σ) (hZ : ∀ w τ, Z w τ → Z' w τ) (hk : ∀ pc ls st σ, k pc ls st σ → k' pc ls st σ) (h : ucsC c1 ct K Z x pc ls st σ k) : ucsC c1' ct' K' Z' x pc ls st σ k' := by
  obtain ⟨x1, len, q1, q2, cs⟩ := x
  cases x1 with
  | iconst n =>
    dsimp only [ucsC] at h ⊢
    exact hk _ _ _ _ h
  | bipush n =>
    dsimp only [ucsC] at h ⊢
    exact hk _ _ _ _ h
  | sipush n =>
    dsimp only [ucsC] at h ⊢
    exact hk _ _ _ _ h
  | lconst n =>
    dsimp only [ucsC] at h ⊢
    exact hk _ _ _ _ h
  | ldc2_w a0 =>
    dsimp only [ucsC] at h ⊢
    exact hk _ _ _ _ h
  | aconst_null =>
    dsimp only [ucsC] at h ⊢
    exact hk _ _ _ _ h
  | ldc a0 =>
    dsimp only [ucsC] at h ⊢
    cases hb : Nat.beq q2 0 with
    | true => rw [hb] at h; exact hk _ _ _ _ h
    | false => rw [hb] at h; exact hk _ _ _ _ h
  | iload_n a0 =>
    dsimp only [ucsC] at h ⊢
    split at h
    next v hl =>
      try rw [hl]
      exact hk _ _ _ _ h
    next => exact h.elim
  | iload n =>
    dsimp only [ucsC] at h ⊢
    split at h
    next v hl =>
      try rw [hl]
      exact hk _ _ _ _ h
    next => exact h.elim
  | lload_n a0 =>
    dsimp only [ucsC] at h ⊢
    split at h
    next v hl =>
      try rw [hl]
      exact hk _ _ _ _ h
    next => exact h.elim
  | lload n =>
    dsimp only [ucsC] at h ⊢
    split at h
    next v hl =>
      try rw [hl]
      exact hk _ _ _ _ h
    next => exact h.elim
  | aload_n a0 =>
    dsimp only [ucsC] at h ⊢
    split at h
    next v hl =>
      try rw [hl]
      exact hk _ _ _ _ h
    next => exact h.elim
  | aload n =>
    dsimp only [ucsC] at h ⊢
    split at h
    next v hl =>
      try rw [hl]
      exact hk _ _ _ _ h
    next => exact h.elim
  | istore_n a0 =>
    dsimp only [ucsC] at h ⊢
    split at h
    next v r => exact hk _ _ _ _ h
    next => trivial
  | istore n =>
    dsimp only [ucsC] at h ⊢
    split at h
    next v r => exact hk _ _ _ _ h
    next => trivial
  | lstore_n a0 =>
    dsimp only [ucsC] at h ⊢
    split at h
    next v r => exact hk _ _ _ _ h
    next => trivial
  | lstore n =>
    dsimp only [ucsC] at h ⊢
    split at h
    next v r => exact hk _ _ _ _ h
    next => trivial
  | astore_n a0 =>
    dsimp only [ucsC] at h ⊢
    split at h
    next v r => exact hk _ _ _ _ h
    next => trivial
  | astore n =>
    dsimp only [ucsC] at h ⊢
    split at h
    next v r => exact hk _ _ _ _ h
    next => trivial
  | iinc n d =>
    dsimp only [ucsC] at h ⊢
    split at h
    next v hl =>
      try rw [hl]
      exact hk _ _ _ _ h
    next => exact h.elim
  | iadd =>
    dsimp only [ucsC] at h ⊢
    split at h
    next => exact hk _ _ _ _ h
    next => trivial
  | isub =>
    dsimp only [ucsC] at h ⊢
    split at h
    next => exact hk _ _ _ _ h
    next => trivial
  | iand =>
    dsimp only [ucsC] at h ⊢
    split at h
    next => exact hk _ _ _ _ h
    next => trivial
  | ior =>
    dsimp only [ucsC] at h ⊢
    split at h
    next => exact hk _ _ _ _ h
    next => trivial
  | ishr =>
    dsimp only [ucsC] at h ⊢
    split at h
    next => exact hk _ _ _ _ h
    next => trivial
  | imul =>
    dsimp only [ucsC] at h ⊢
    split at h
    next => exact hk _ _ _ _ h
    next => trivial
  | ishl =>
    dsimp only [ucsC] at h ⊢
    split at h
    next => exact hk _ _ _ _ h
    next => trivial
  | iushr =>
    dsimp only [ucsC] at h ⊢
    split at h
    next => exact hk _ _ _ _ h
    next => trivial
  | irem =>
    dsimp only [ucsC] at h ⊢
    split at h
    next => exact hk _ _ _ _ h
    next => trivial
  | ladd =>
    dsimp only [ucsC] at h ⊢
    split at h
    next => exact hk _ _ _ _ h
    next => trivial
  | lsub =>
    dsimp only [ucsC] at h ⊢
    split at h
    next => exact hk _ _ _ _ h
    next => trivial
  | lmul =>
    dsimp only [ucsC] at h ⊢
    split at h
    next => exact hk _ _ _ _ h
    next => trivial
  | land =>
    dsimp only [ucsC] at h ⊢
    split at h
    next => exact hk _ _ _ _ h
    next => trivial
  | lor =>
    dsimp only [ucsC] at h ⊢
    split at h
    next => exact hk _ _ _ _ h
    next => trivial
  | lxor =>
    dsimp only [ucsC] at h ⊢
    split at h
    next => exact hk _ _ _ _ h
    next => trivial
  | ldiv =>
    dsimp only [ucsC] at h ⊢
    split at h
    next => exact hk _ _ _ _ h
    next => trivial
  | lrem =>
    dsimp only [ucsC] at h ⊢
    split at h
    next => exact hk _ _ _ _ h
    next => trivial
  | lshl =>
    dsimp only [ucsC] at h ⊢
    split at h
    next => exact hk _ _ _ _ h
    next => trivial
  | lshr =>
    dsimp only [ucsC] at h ⊢
    split at h
    next => exact hk _ _ _ _ h
    next => trivial
  | lushr =>
    dsimp only [ucsC] at h ⊢
    split at h
    next => exact hk _ _ _ _ h
    next => trivial
  | lneg =>
    dsimp only [ucsC] at h ⊢
    split at h
    next => exact hk _ _ _ _ h
    next => trivial
  | i2l =>
    dsimp only [ucsC] at h ⊢
    split at h
    next => exact hk _ _ _ _ h
    next => trivial
  | l2i =>
    dsimp only [ucsC] at h ⊢
    split at h
    next => exact hk _ _ _ _ h
    next => trivial
  | i2b =>
    dsimp only [ucsC] at h ⊢
    split at h
    next => exact hk _ _ _ _ h
    next => trivial
  | i2c =>
    dsimp only [ucsC] at h ⊢
    split at h
    next => exact hk _ _ _ _ h
    next => trivial
  | lcmp =>
    dsimp only [ucsC] at h ⊢
    split at h
    next => exact hk _ _ _ _ h
    next => trivial
  | dup =>
    dsimp only [ucsC] at h ⊢
    split at h
    next => exact hk _ _ _ _ h
    next => exact hk _ _ _ _ h
    next => trivial
  | dup_x1 =>
    dsimp only [ucsC] at h ⊢
    split at h
    next => exact hk _ _ _ _ h
    next => exact hk _ _ _ _ h
    next => trivial
  | pop =>
    dsimp only [ucsC] at h ⊢
    split at h
    next => exact hk _ _ _ _ h
    next => exact hk _ _ _ _ h
    next => trivial
  | pop2 =>
    dsimp only [ucsC] at h ⊢
    split at h
    next => exact hk _ _ _ _ h
    next => trivial
  | ifCond c a1 =>
    dsimp only [ucsC] at h ⊢
    split at h
    next => exact ⟨fun q => hK _ _ (h.1 q), fun q => hk _ _ _ _ (h.2 q)⟩
    next => trivial
  | if_icmp c a1 =>
    dsimp only [ucsC] at h ⊢
    split at h
    next => exact ⟨fun q => hK _ _ (h.1 q), fun q => hk _ _ _ _ (h.2 q)⟩
    next => trivial
  | ifnull a0 =>
    dsimp only [ucsC] at h ⊢
    split at h
    next => exact ⟨fun q => hK _ _ (h.1 q), fun a q => hk _ _ _ _ (h.2 a q)⟩
    next => trivial
  | ifnonnull a0 =>
    dsimp only [ucsC] at h ⊢
    split at h
    next => exact ⟨fun a q => hK _ _ (h.1 a q), fun q => hk _ _ _ _ (h.2 q)⟩
    next => trivial
  | if_acmp c a1 =>
    dsimp only [ucsC] at h ⊢
    split at h
    next =>
      cases c with
      | eq => exact ⟨fun q => hK _ _ (h.1 q), fun q => hk _ _ _ _ (h.2 q)⟩
      | ne => exact ⟨fun q => hK _ _ (h.1 q), fun q => hk _ _ _ _ (h.2 q)⟩
    next => trivial
  | goto a0 =>
    dsimp only [ucsC] at h ⊢
    exact hK _ _ h
  | tableswitch a0 a1 a2 a3 =>
    dsimp only [ucsC] at h ⊢
    split at h
    next => exact rsw_1 h (fun t a => hK _ _ a)
    next => trivial
  | lookupswitch a0 a1 =>
    dsimp only [ucsC] at h ⊢
    split at h
    next => exact rsw_1 h (fun t a => hK _ _ a)
    next => trivial
  | ireturn =>
    dsimp only [ucsC] at h ⊢
    split at h
    next => exact hZ _ _ h
    next => trivial
  | lreturn =>
    dsimp only [ucsC] at h ⊢
    split at h
    next => exact hZ _ _ h
    next => trivial
  | areturn =>
    dsimp only [ucsC] at h ⊢
    split at h
    next => exact hZ _ _ h
    next => trivial
  | return_ =>
    dsimp only [ucsC] at h ⊢
    split at h
    next => exact fun τ a => hZ _ _ (h τ a)
    next => trivial
  | getfield a0 =>
    dsimp only [ucsC] at h ⊢
    split at h
    next => exact fun a e p1 => hk _ _ _ _ (h a e p1)
    next => trivial
  | putfield a0 =>
    dsimp only [ucsC] at h ⊢
    split at h
    next => exact fun a e p1 p2 => hk _ _ _ _ (h a e p1 p2)
    next => exact fun a e p1 p2 => hk _ _ _ _ (h a e p1 p2)
    next => exact fun a e p1 p2 => hk _ _ _ _ (h a e p1 p2)
    next => trivial
  | baload =>
    dsimp only [ucsC] at h ⊢
    split at h
    next => exact fun a e p1 p2 => hk _ _ _ _ (h a e p1 p2)
    next => trivial
  | laload =>
    dsimp only [ucsC] at h ⊢
    split at h
    next => exact fun a e p1 p2 => hk _ _ _ _ (h a e p1 p2)
    next => trivial
  | iaload =>
    dsimp only [ucsC] at h ⊢
    split at h
    next => exact fun a e => ⟨fun p1 p2 => hk _ _ _ _ ((h a e).1 p1 p2), fun p1 p2 => hk _ _ _ _ ((h a e).2.1 p1 p2), fun p1 p2 => hk _ _ _ _ ((h a e).2.2 p1 p2)⟩
    next => trivial
  | aaload =>
    dsimp only [ucsC] at h ⊢
    split at h
    next => exact fun a t e p1 p2 p3 => hk _ _ _ _ (h a t e p1 p2 p3)
    next => trivial
  | iastore =>
    dsimp only [ucsC] at h ⊢
    split at h
    next => exact fun a e p1 p2 => hk _ _ _ _ (h a e p1 p2)
    next => trivial
  | bastore =>
    dsimp only [ucsC] at h ⊢
    split at h
    next => exact fun a e p1 p2 => hk _ _ _ _ (h a e p1 p2)
    next => trivial
  | lastore =>
    dsimp only [ucsC] at h ⊢
    split at h
    next => exact fun a e p1 p2 => hk _ _ _ _ (h a e p1 p2)
    next => trivial
  | aastore =>
    dsimp only [ucsC] at h ⊢
    split at h
    next => exact fun a t e p1 p2 p3 p4 => hk _ _ _ _ (h a t e p1 p2 p3 p4)
    next => trivial
  | arraylength =>
    dsimp only [ucsC] at h ⊢
    split at h
    next => exact fun a e => ⟨fun p1 p2 p3 p4 => hk _ _ _ _ ((h a e).1 p1 p2 p3 p4), fun n p1 => hk _ _ _ _ ((h a e).2 n p1)⟩
    next => trivial
  | newarray a0 =>
    dsimp only [ucsC] at h ⊢
    split at h
    next => exact fun p1 p2 => hk _ _ _ _ (h p1 p2)
    next => trivial
  | anewarray a0 =>
    dsimp only [ucsC] at h ⊢
    split at h
    next => exact fun p1 p2 => hk _ _ _ _ (h p1 p2)
    next => trivial
  | new a0 =>
    dsimp only [ucsC] at h ⊢
    exact hk _ _ _ _ h
  | checkcast a0 =>
    dsimp only [ucsC] at h ⊢
    split at h
    next => exact hk _ _ _ _ h
    next => exact fun p1 => hk _ _ _ _ (h p1)
    next => trivial
  | getstatic a0 =>
    dsimp only [ucsC] at h ⊢
    exact hk _ _ _ _ h
  | invokevirtual a0 =>
    dsimp only [ucsC] at h ⊢
    cases hb : Nat.beq q2 9998 with
    | true =>
      simp only [hb] at h ⊢
      split at h
      next => exact fun a e p1 => hk _ _ _ _ (h a e p1)
      next => trivial
    | false =>
      simp only [hb] at h ⊢
      cases hq : ctC c1' q2 with
      | none => trivial
      | some z =>
        obtain ⟨P', Q'⟩ := z
        obtain ⟨P, Q, hq2, hq3⟩ := hc q2 P' Q' hq
        simp only [hq2] at h
        try simp only [hq]
        split at h
        next => exact fun w τ q0 q => hk _ _ _ _ (h w τ (hq3 _ _ _ _ q0 q).1 (hq3 _ _ _ _ q0 q).2)
        next => trivial
  | invokespecial a0 =>
    dsimp only [ucsC] at h ⊢
    cases hb : Nat.beq q2 9999 with
    | true =>
      simp only [hb] at h ⊢
      split at h
      next => exact hk _ _ _ _ h
      next => trivial
    | false =>
      simp only [hb] at h ⊢
      cases hq : ctC c1' q2 with
      | none => trivial
      | some z =>
        obtain ⟨P', Q'⟩ := z
        obtain ⟨P, Q, hq2, hq3⟩ := hc q2 P' Q' hq
        simp only [hq2] at h
        try simp only [hq]
        split at h
        next => exact fun w τ q0 q => hk _ _ _ _ (h w τ (hq3 _ _ _ _ q0 q).1 (hq3 _ _ _ _ q0 q).2)
        next => trivial
  | invokestatic a0 =>
    dsimp only [ucsC] at h ⊢
    cases hb : Nat.ble 9990 q2 with
    | true =>
      simp only [hb] at h ⊢
      cases hc : Nat.beq q2 9997 with
      | true =>
        simp only [hc] at h ⊢
        split at h
        next => exact fun a b e1 e2 p1 p2 => hk _ _ _ _ (h a b e1 e2 p1 p2)
        next => trivial
      | false =>
        simp only [hc] at h ⊢
        cases hd : Nat.beq q2 9996 with
        | true =>
          simp only [hd] at h ⊢
          split at h
          next => exact hk _ _ _ _ h
          next => trivial
        | false =>
          simp only [hd] at h ⊢
          split at h
          next => exact hk _ _ _ _ h
          next => trivial
    | false =>
      simp only [hb] at h ⊢
      cases hq : ctC c1' q2 with
      | none => trivial
      | some z =>
        obtain ⟨P', Q'⟩ := z
        obtain ⟨P, Q, hq2, hq3⟩ := hc q2 P' Q' hq
        simp only [hq2] at h
        try simp only [hq]
        exact fun w τ q0 q => hk _ _ _ _ (h w τ (hq3 _ _ _ _ q0 q).1 (hq3 _ _ _ _ q0 q).2)
  | _ => trivial
theorem cwp_fr {M : List Nat} {σ0 : CsC} {c1 : CcC} {K1 K : CkC} {Z1 Z : Option AvC → CsC → Prop} (hc : ∀ {μ : Nat} {P : CpC} {Q : CqC}, ctC c1 μ = some (P, Q) → ∀ As σ w τ, Q As σ w τ → FrE M σ τ) (hK : ∀ pc ls st σ, FrE M σ0 σ → K1 pc ls st σ → K pc ls st σ) (hZ : ∀ w τ, FrE M σ0 τ → Z1 w τ → Z w τ) : ∀ (is : List RI) (pc : Nat) (ls : ClC) (st : List AvC) (σ : CsC), is.all (okE M) = true → FrE M σ0 σ → cwpC c1 K1 Z1 is pc ls st σ → cwpC c1 K Z is pc ls st σ := by
  intro is
  induction is with
  | nil => exact fun pc ls st σ _ hf h => hK _ _ _ _ hf h
  | cons x is ih =>
    intro pc ls st σ ho hf h
    rw [List.all_cons, Bool.and_eq_true] at ho
    exact cst_fr ho.1 hf hc (fun t r q => hK _ _ _ _ hf q) hZ (fun pc ls st σ hf q => ih pc ls st σ ho.2 hf q) h
theorem cwp_mn {b0 : Bool} {σ0 : CsC} {c1 : CcC} {K1 K : CkC} {Z1 Z : Option AvC → CsC → Prop} (hc : ∀ {μ : Nat} {P : CpC} {Q : CqC}, ctC c1 μ = some (P, Q) → ∀ As σ w τ, Q As σ w τ → MnE b0 σ τ) (hK : ∀ pc ls st σ, MnE b0 σ0 σ → K1 pc ls st σ → K pc ls st σ) (hZ : ∀ w τ, MnE b0 σ0 τ → Z1 w τ → Z w τ) : ∀ (is : List RI) (pc : Nat) (ls : ClC) (st : List AvC) (σ : CsC), is.all (okM b0) = true → MnE b0 σ0 σ → cwpC c1 K1 Z1 is pc ls st σ → cwpC c1 K Z is pc ls st σ := by
  intro is
  induction is with
  | nil => exact fun pc ls st σ _ hf h => hK _ _ _ _ hf h
  | cons x is ih =>
    intro pc ls st σ ho hf h
    rw [List.all_cons, Bool.and_eq_true] at ho
    exact cst_mn ho.1 hf hc (fun t r q => hK _ _ _ _ hf q) hZ (fun pc ls st σ hf q => ih pc ls st σ ho.2 hf q) h
theorem ct_mem {c : CcC} {μ : Nat} {z : CpC × CqC} : ctC c μ = some z → (μ, z) ∈ c := by
  induction c with
  | nil => intro h; cases h
  | cons q r ih =>
    intro h
    unfold ctC at h
    cases hb : Nat.beq q.1 μ with
    | true =>
      rw [hb] at h
      have e : q.1 = μ := Nat.eq_of_beq_eq_true hb
      cases h
      rw [← e]
      exact List.mem_cons_self
    | false =>
      rw [hb] at h
      exact List.mem_cons_of_mem _ (ih h)
/-- a total contract, and what stays -/
theorem TbC.fr {M : List Nat} {bs : RB} {c1 : CcC} {P : CpC} {Q Q' : CqC} (b : TbC bs c1 P Q) (ho : bs.all (fun b => b.2.all (okE M)) = true) (hc : ∀ q ∈ c1, ∀ As σ w τ, q.2.2 As σ w τ → FrE M σ τ) (hq : ∀ As σ w τ, P As σ → GrC σ σ → Q As σ w τ → FrE M σ τ → Q' As σ w τ) : TbC bs c1 P Q' := by
  intro As σ hP hg G hG hM
  refine b As σ hP hg (fun pc ls st τ => FrE M σ τ → G pc ls st τ) (fun pc ls st τ h hf => hG pc ls st τ ?_) (fun pc ls ls' st τ hs h hf => hM _ _ _ _ _ hs (h hf)) FrE.rf
  unfold cgoC at h ⊢
  cases hr : rfd bs pc with
  | none => rw [hr] at h; exact h
  | some is =>
    rw [hr] at h
    exact cwp_fr (fun e As σ w τ q => hc _ (ct_mem e) As σ w τ q) (fun pc ls st σ hf q => q hf) (fun w τ hf q => hq As σ w τ hP hg q hf) is pc ls st τ (List.all_eq_true.mp ho (pc, is) (rfdC hr)) hf h
theorem TbC.mn {b : Bool} {bs : RB} {c1 : CcC} {P : CpC} {Q Q' : CqC} (b1 : TbC bs c1 P Q) (ho : bs.all (fun q => q.2.all (okM b)) = true) (hc : ∀ q ∈ c1, ∀ As σ w τ, q.2.2 As σ w τ → MnE b σ τ) (hq : ∀ As σ w τ, P As σ → GrC σ σ → Q As σ w τ → MnE b σ τ → Q' As σ w τ) : TbC bs c1 P Q' := by
  intro As σ hP hg G hG hM
  refine b1 As σ hP hg (fun pc ls st τ => MnE b σ τ → G pc ls st τ) (fun pc ls st τ h hf => hG pc ls st τ ?_) (fun pc ls ls' st τ hs h hf => hM _ _ _ _ _ hs (h hf)) MnE.rf
  unfold cgoC at h ⊢
  cases hr : rfd bs pc with
  | none => rw [hr] at h; exact h
  | some is =>
    rw [hr] at h
    exact cwp_mn (fun e As σ w τ q => hc _ (ct_mem e) As σ w τ q) (fun pc ls st σ hf q => q hf) (fun w τ hf q => hq As σ w τ hP hg q hf) is pc ls st τ (List.all_eq_true.mp ho (pc, is) (rfdC hr)) hf h
/-- fewer outcomes of what is called -/
theorem ucwp_mo {c1 c1' : CcC} {ct ct' : UcC} {K K' : CkC} {Z Z' : Option AvC → CsC → Prop} (hc : MoQ c1 ct c1' ct') (hK : ∀ pc ls st σ, K pc ls st σ → K' pc ls st σ) (hZ : ∀ w τ, Z w τ → Z' w τ) : ∀ (is : List RI) (pc : Nat) (ls : ClC) (st : List AvC) (σ : CsC), ucwp c1 ct K Z is pc ls st σ → ucwp c1' ct' K' Z' is pc ls st σ := by
  intro is
  induction is with
  | nil => exact fun pc ls st σ h => hK _ _ _ _ h
  | cons x is ih => exact fun pc ls st σ h => ucs_mo hc (fun t r q => hK _ _ _ _ q) hZ ih h
theorem ucgo_mo {bs : RB} {c1 c1' : CcC} {ct ct' : UcC} {K K' : CkC} {Z Z' : Option AvC → CsC → Prop} (hc : MoQ c1 ct c1' ct') (hK : ∀ pc ls st σ, K pc ls st σ → K' pc ls st σ) (hZ : ∀ w τ, Z w τ → Z' w τ) {pc : Nat} {ls : ClC} {st : List AvC} {σ : CsC} (h : ucgo bs c1 ct K Z pc ls st σ) : ucgo bs c1' ct' K' Z' pc ls st σ := by
  unfold ucgo at h ⊢
  cases hr : rfd bs pc with
  | none => trivial
  | some is =>
    rw [hr] at h
    exact ucwp_mo hc hK hZ is pc ls st σ h
theorem uKm_mo {bs : RB} {c1 c1' : CcC} {ct ct' : UcC} {Z Z' : Option AvC → CsC → Prop} (hc : MoQ c1 ct c1' ct') (hZ : ∀ w τ, Z w τ → Z' w τ) : ∀ (n pc : Nat) (ls : ClC) (st : List AvC) (σ : CsC), uKm bs c1 ct Z n pc ls st σ → uKm bs c1' ct' Z' n pc ls st σ := by
  intro n
  induction n with
  | zero => exact fun _ _ _ _ _ => trivial
  | succ n ih => exact fun pc ls st σ h => ucgo_mo (bs := bs) hc ih hZ h
theorem MoQ.rf {c1 : CcC} {ct : UcC} : MoQ c1 ct c1 ct := fun μ P Q h => ⟨P, Q, h, fun _ _ _ _ a b => ⟨a, b⟩⟩
theorem uKm_s {bs : RB} {c1 : CcC} {ct : UcC} {Z : Option AvC → CsC → Prop} : ∀ (n pc : Nat) (ls : ClC) (st : List AvC) (σ : CsC), uKm bs c1 ct Z (n + 1) pc ls st σ → uKm bs c1 ct Z n pc ls st σ := by
  intro n
  induction n with
  | zero => exact fun _ _ _ _ _ => trivial
  | succ n ih => exact fun pc ls st σ h => ucgo_mo (bs := bs) MoQ.rf ih (fun _ _ q => q) h
theorem uKm_le {bs : RB} {c1 : CcC} {ct : UcC} {Z : Option AvC → CsC → Prop} {pc : Nat} {ls : ClC} {st : List AvC} {σ : CsC} {m n : Nat} (h : m ≤ n) : uKm bs c1 ct Z n pc ls st σ → uKm bs c1 ct Z m pc ls st σ := by
  induction n with
  | zero => intro q; rw [Nat.le_zero.mp h]; exact q
  | succ n ih =>
    intro q
    rcases Nat.lt_or_ge m (n + 1) with z | z
    · exact ih (by omega) (uKm_s n _ _ _ _ q)
    · rw [show m = n + 1 by omega]; exact q
/-- no premise, no promise -/
def tr1C (μ : Nat) : Nat × CpC × CqC := (μ, fun _ _ => True, fun _ _ _ _ => True)
theorem tr_ct {cs : List Nat} {μ : Nat} {z : CpC × CqC} : ctC (cs.map tr1C) μ = some z → μ ∈ cs := by
  intro h
  obtain ⟨a, h1, h2⟩ := List.mem_map.mp (ct_mem h)
  have e : a = μ := congrArg (fun q => q.1) h2
  rw [← e]
  exact h1
theorem ct_tr {cs : List Nat} {μ : Nat} : μ ∈ cs → ctC (cs.map tr1C) μ = some (fun _ _ => True, fun _ _ _ _ => True) := by
  induction cs with
  | nil => intro h; cases h
  | cons q r ih =>
    intro h
    rw [List.map_cons]
    unfold ctC
    dsimp only [tr1C]
    cases hb : Nat.beq q μ with
    | true => rfl
    | false =>
      rcases List.mem_cons.mp h with e | h
      · rw [e, Nat.beq_refl] at hb
        cases hb
      · exact ih h
/-- a run of a method: fewer than L calls within one another -/
def EvF : Nat → Nat → CqC
  | 0, _ => fun _ _ _ _ => False
  | L + 1, μ => fun As σ w τ => (uqC quL μ As σ w τ ∧ cnC σ ≤ 1000000 ∧ MnE (mnF μ) σ τ) ∧ FrE (mgF μ) σ τ ∧ uqC quM μ As σ w τ ∧ match blF μ with
    | none => True
    | some (bs, cs) => ∀ Z : Option AvC → CsC → Prop, (∀ m, uKm bs (cs.map tr1C) (cs.map (fun c => (c, EvF L c))) Z m 0 (agC 0 As) [] σ) → Z w τ
abbrev EvQ (L μ : Nat) (Q : CqC) : CqC := fun As σ w τ => Q As σ w τ ∧ EvF L μ As σ w τ
theorem uq_map {f : Nat → CqC} {μ : Nat} : ∀ {cs : List Nat}, μ ∈ cs → uqC (cs.map (fun c => (c, f c))) μ = f μ := by
  intro cs
  induction cs with
  | nil => intro h; cases h
  | cons c cs ih =>
    intro h
    rw [List.map_cons]
    unfold uqC uoC
    try dsimp only
    cases hb : Nat.beq c μ with
    | true => rw [Nat.eq_of_beq_eq_true hb]
    | false =>
      rcases List.mem_cons.mp h with e | h
      · rw [e, Nat.beq_refl] at hb
        cases hb
      · exact ih h
theorem EvF.s : ∀ {L μ : Nat} {As : List AvC} {σ : CsC} {w : Option AvC} {τ : CsC}, EvF L μ As σ w τ → EvF (L + 1) μ As σ w τ := by
  intro L
  induction L with
  | zero => intro μ As σ w τ h; exact h.elim
  | succ L ih =>
    intro μ As σ w τ h
    refine ⟨h.1, h.2.1, h.2.2.1, ?_⟩
    have h2 := h.2.2.2
    cases hT : blF μ with
    | none => trivial
    | some z =>
      obtain ⟨bs, cs⟩ := z
      rw [hT] at h2
      refine fun Z hZ => h2 Z (fun m => uKm_mo (fun μ' P' Q' hq => ⟨_, _, hq, fun As σ w τ a b => ⟨a, ?_⟩⟩) (fun _ _ q => q) m _ _ _ _ (hZ m))
      have hm := tr_ct hq
      rw [uq_map (f := fun c => EvF L c) hm] at b
      rw [uq_map (f := fun c => EvF (L + 1) c) hm]
      exact ih b
theorem EvF.le {L L' μ : Nat} {As : List AvC} {σ : CsC} {w : Option AvC} {τ : CsC} (h : EvF L μ As σ w τ) (hl : L ≤ L') : EvF L' μ As σ w τ := by
  induction L' with
  | zero => rw [← Nat.le_zero.mp hl]; exact h
  | succ n ih =>
    rcases Nat.lt_or_ge L (n + 1) with z | z
    · exact (ih (by omega)).s
    · rw [← show L = n + 1 by omega]; exact h
theorem CMetC.mq {l : Launch} {lev μ : Nat} {P : CpC} {Q Q' : CqC} (h : CMetC l lev μ P Q) (hQ : ∀ As σ w τ, P As σ → GrC σ σ → Q As σ w τ → Q' As σ w τ) : CMetC l lev μ P Q' := by
  obtain ⟨r, h1, h2⟩ := h
  refine ⟨r, h1, fun D ad kA σ sz As hp hg => ?_⟩
  refine MetFree.mono (h2 D ad kA σ sz As hp hg) (fun _ _ q => q) (fun _ _ _ _ _ q => q) (fun a st o t _ q => ?_)
  obtain ⟨⟨⟨w, τ, q1, q2, q3⟩, q4⟩, q5⟩ := q
  exact ⟨⟨⟨w, τ, q1, hQ As σ w τ hp hg q2, q3⟩, q4⟩, q5⟩
theorem CMetC.up {l : Launch} {lev μ L L' : Nat} {P : CpC} {Q : CqC} (h : CMetC l lev μ P (EvQ L μ Q)) (hl : L ≤ L') : CMetC l lev μ P (EvQ L' μ Q) := h.mq (fun As σ w τ _ _ q => ⟨q.1, q.2.le hl⟩)
def subE (M : List Nat) (μ : Nat) : Bool := (mgF μ).all (fun k => M.elem k)
theorem EvF.fr {M : List Nat} {L μ : Nat} {As : List AvC} {σ : CsC} {w : Option AvC} {τ : CsC} (h : EvF L μ As σ w τ) (hs : subE M μ = true) : FrE M σ τ := by
  cases L with
  | zero => exact h.elim
  | succ L => exact h.2.1.mo hs
theorem fr_no {σ τ : CsC} (h : cnC σ ≤ cnC τ) : FrE [999] σ τ := ⟨h, fun z => by cases z⟩
theorem EvF.q {L μ : Nat} {As : List AvC} {σ : CsC} {w : Option AvC} {τ : CsC} (h : EvF L μ As σ w τ) : uqC quL μ As σ w τ ∧ cnC σ ≤ 1000000 ∧ MnE (mnF μ) σ τ := by
  cases L with
  | zero => exact h.elim
  | succ L => exact h.1
theorem EvF.m {L μ : Nat} {As : List AvC} {σ : CsC} {w : Option AvC} {τ : CsC} (h : EvF L μ As σ w τ) : uqC quM μ As σ w τ := by
  cases L with
  | zero => exact h.elim
  | succ L => exact h.2.2.1
theorem uo_mem {c2 : UcC} {μ : Nat} {Q : CqC} : uoC c2 μ = some Q → (μ, Q) ∈ c2 := by
  induction c2 with
  | nil => intro h; cases h
  | cons q r ih =>
    intro h
    unfold uoC at h
    cases hb : Nat.beq q.1 μ with
    | true =>
      rw [hb] at h
      have e : q.1 = μ := Nat.eq_of_beq_eq_true hb
      cases h
      rw [← e]
      exact List.mem_cons_self
    | false =>
      rw [hb] at h
      exact List.mem_cons_of_mem _ (ih h)
theorem uo_map {f : Nat → CqC} {μ : Nat} : ∀ {cs : List Nat}, μ ∈ cs → uoC (cs.map (fun c => (c, f c))) μ = some (f μ) := by
  intro cs
  induction cs with
  | nil => intro h; cases h
  | cons c cs ih =>
    intro h
    rw [List.map_cons]
    unfold uoC
    try dsimp only
    cases hb : Nat.beq c μ with
    | true => rw [Nat.eq_of_beq_eq_true hb]
    | false =>
      rcases List.mem_cons.mp h with e | h
      · rw [e, Nat.beq_refl] at hb
        cases hb
      · exact ih h
/-- out of a total contract: its runs -/
theorem TbC.ev {bs : RB} {c1 : CcC} {P : CpC} {Q : CqC} {L μ : Nat} {cs M : List Nat} (b : TbC bs c1 P Q) (hT : blF μ = some (bs, cs)) (hg : mgF μ = M) (hk : (c1.map (fun q => q.1)).all (fun m => cs.elem m) = true) (ho : bs.all (fun b => b.2.all (okE M)) = true) (hs : cs.all (subE M) = true) (hq : ∀ As σ w τ, P As σ → Q As σ w τ → uqC quL μ As σ w τ) (hqm : ∀ As σ w τ, P As σ → Q As σ w τ → uqC quM μ As σ w τ) (hmn : (bs.all (fun b => b.2.all (okM (mnF μ))) = true ∧ cs.all (fun c => !mnF μ || mnF c) = true) ∨ ∀ As σ w τ, P As σ → Q As σ w τ → MnE (mnF μ) σ τ) : TbC bs (uc2C c1 (cs.map (fun c => (c, EvF L c)))) P (EvQ (L + 1) μ Q) := by
  have hkm : ∀ m ∈ c1.map (fun q => q.1), m ∈ cs := fun m hm => List.elem_iff.mp (List.all_eq_true.mp hk m hm)
  have b2 := TbC.and (Y := Option AvC → CsC → Prop) (c2 := cs.map (fun c => (c, EvF L c))) (P2 := fun Z As σ => ∀ m, uKm bs (cs.map tr1C) (cs.map (fun c => (c, EvF L c))) Z m 0 (agC 0 As) [] σ) (Q2 := fun Z _ _ w τ => Z w τ) b (fun Z As σ hP K hB hW n => by
    have hmo : MoQ (cs.map tr1C) (cs.map (fun c => (c, EvF L c))) c1 (cs.map (fun c => (c, EvF L c))) := fun μ' P' Q' hq => ⟨_, _, ct_tr (hkm _ (List.mem_map.mpr ⟨_, ct_mem hq, rfl⟩)), fun As σ w τ _ b => ⟨trivial, b⟩⟩
    have key : ∀ n pc ls st τ, uKm bs (cs.map tr1C) (cs.map (fun c => (c, EvF L c))) Z n pc ls st τ → K n pc ls st τ := by
      intro n
      induction n using Nat.strongRecOn with
      | _ n ih => exact fun pc ls st τ h => hB n pc ls st τ (fun m hm => ucgo_mo hmo (fun pc ls st σ q => ih m hm pc ls st σ q) (fun _ _ q => q) (uKm_le (m := m + 1) hm h))
    exact key n _ _ _ _ (hP.2 n))
  have key : ∀ {Q9 : CqC}, TbC bs (uc2C c1 (cs.map (fun c => (c, EvF L c)))) P Q9 → (∀ As σ w τ, P As σ → GrC σ σ → Q9 As σ w τ → ((Q As σ w τ ∧ MnE (mnF μ) σ τ) ∧ ∀ Z : Option AvC → CsC → Prop, (∀ m, uKm bs (cs.map tr1C) (cs.map (fun c => (c, EvF L c))) Z m 0 (agC 0 As) [] σ) → Z w τ)) → TbC bs (uc2C c1 (cs.map (fun c => (c, EvF L c)))) P (EvQ (L + 1) μ Q) := by
    intro Q9 b9 h9
    refine TbC.fr (M := M) b9 ho (fun q hq As σ w τ h => ?_) (fun As σ w τ hP hgr h hf => ?_)
    · obtain ⟨q0, h1, h2⟩ := List.mem_map.mp hq
      have hm : q0.1 ∈ cs := hkm _ (List.mem_map.mpr ⟨q0, h1, rfl⟩)
      have e := uo_map (f := fun c => EvF L c) hm
      rw [← h2] at h
      dsimp only at h
      rw [e] at h
      exact h.2.fr (List.all_eq_true.mp hs _ hm)
    · have h := h9 As σ w τ hP hgr h
      refine ⟨h.1.1, ⟨hq _ _ _ _ hP h.1.1, Nat.le_trans hgr.2.2.1.1 hgr.2.2.2, h.1.2⟩, by rw [hg]; exact hf, hqm _ _ _ _ hP h.1.1, ?_⟩
      rw [hT]
      exact fun Z hZ => h.2 Z hZ
  rcases hmn with hmn | hmn
  · refine key (TbC.mn (b := mnF μ) b2 hmn.1 (fun q hq As σ w τ h => ?_) (Q' := fun As σ w τ => ((Q As σ w τ ∧ MnE (mnF μ) σ τ) ∧ ∀ Z : Option AvC → CsC → Prop, (∀ m, uKm bs (cs.map tr1C) (cs.map (fun c => (c, EvF L c))) Z m 0 (agC 0 As) [] σ) → Z w τ)) (fun As σ w τ hP hgr h hf => ⟨⟨h.1, hf⟩, h.2⟩)) (fun As σ w τ hP hgr h => h)
    obtain ⟨q0, h1, h2⟩ := List.mem_map.mp hq
    have hm : q0.1 ∈ cs := hkm _ (List.mem_map.mpr ⟨q0, h1, rfl⟩)
    have e := uo_map (f := fun c => EvF L c) hm
    rw [← h2] at h
    dsimp only at h
    rw [e] at h
    exact h.2.q.2.2.mo (List.all_eq_true.mp hmn.2 _ hm)
  · exact key b2 (fun As σ w τ hP hgr h => ⟨⟨h.1, hmn _ _ _ _ hP h.1⟩, h.2⟩)
/-- of a method that is called: what its total contract tells, what it leaves alone -/
abbrev TrP : CpC := fun _ _ => True
abbrev EqC (μ : Nat) : CqC := fun As σ w τ => (uqC quL μ As σ w τ ∧ cnC σ ≤ 1000000 ∧ MnE (mnF μ) σ τ) ∧ FrE (mgF μ) σ τ
def eq1C (μ : Nat) : Nat × CpC × CqC := (μ, TrP, EqC μ)
theorem ct_eq {cs : List Nat} {μ : Nat} : μ ∈ cs → ctC (cs.map eq1C) μ = some (TrP, EqC μ) := by
  induction cs with
  | nil => intro h; cases h
  | cons q r ih =>
    intro h
    rw [List.map_cons]
    unfold ctC
    dsimp only [eq1C]
    cases hb : Nat.beq q μ with
    | true => rw [Nat.eq_of_beq_eq_true hb]
    | false =>
      rcases List.mem_cons.mp h with e | h
      · rw [e, Nat.beq_refl] at hb
        cases hb
      · exact ih h
theorem EvF.eq {L μ : Nat} {As : List AvC} {σ : CsC} {w : Option AvC} {τ : CsC} (h : EvF L μ As σ w τ) : EqC μ As σ w τ := by
  cases L with
  | zero => exact h.elim
  | succ L => exact ⟨h.1, h.2.1⟩
/-- what a run does, by a partial walk -/
theorem EvF.us {bs : RB} {ct : UcC} {P : CpC} {Q : CqC} {L μ : Nat} {cs : List Nat} {As : List AvC} {σ : CsC} {w : Option AvC} {τ : CsC} (hb : PbC bs (cs.map eq1C) ct (fun As σ => P As σ ∧ cnC σ ≤ 1000000 ∧ ∃ w τ, uqC quL μ As σ w τ) Q) (hT : blF μ = some (bs, cs)) (hu : ∀ m ∈ cs, ∀ As σ w τ, EvF L m As σ w τ → uqC ct m As σ w τ) (h : EvF (L + 1) μ As σ w τ) (hP : P As σ) : Q As σ w τ := by
  have h2 := h.2.2.2
  rw [hT] at h2
  refine h2 (Q As σ) (fun m => uKm_mo (c1 := cs.map eq1C) (ct := ct) (fun μ' P' Q' hq => ?_) (fun _ _ q => q) m _ _ _ _ (hb.km ⟨hP, h.1.2.1, w, τ, h.1.1⟩ m))
  have hm' := tr_ct hq
  refine ⟨TrP, EqC μ', ct_eq hm', fun As σ w τ _ b => ?_⟩
  rw [uq_map (f := fun c => EvF L c) hm'] at b
  exact ⟨b.eq, hu μ' hm' As σ w τ b⟩

/-! what a method leaves alone; which runs it has -/
/-- fields outside M are the same, of rows the ints (900), longs (901), references (902); 999: nothing is said -/
def FrE (M : List Nat) (σ τ : CsC) : Prop := cnC σ ≤ cnC τ ∧ (M.elem 999 = false → ∀ a, a < cnC σ → (∀ k, M.elem k = false → fIC τ a k = fIC σ a k ∧ fLC τ a k = fLC σ a k ∧ fRC τ a k = fRC σ a k) ∧ (M.elem 900 = false → eIC τ a = eIC σ a) ∧ (M.elem 901 = false → eLC τ a = eLC σ a) ∧ (M.elem 902 = false → eRC τ a = eRC σ a))
theorem FrE.rf {M : List Nat} {σ : CsC} : FrE M σ σ := by sorry
theorem FrE.tr {M : List Nat} {σ τ υ : CsC} (h : FrE M σ τ) (g : FrE M τ υ) : FrE M σ υ := by sorry
theorem el_sb {M N : List Nat} (h : N.all (fun k => M.elem k) = true) {k : Nat} (hk : M.elem k = false) : N.elem k = false := by sorry
theorem FrE.mo {M N : List Nat} {σ τ : CsC} (h : FrE N σ τ) (hs : N.all (fun k => M.elem k) = true) : FrE M σ τ := by sorry
theorem el_nk {M : List Nat} {j k : Nat} (hk : M.elem k = true) (hj : M.elem j = false) : j ≠ k := fun e => by rw [e, hk] at hj; cases hj
theorem FrE.pI {M : List Nat} {σ τ : CsC} {a k : Nat} {v : Int32} (h : FrE M σ τ) (hk : M.elem k = true) : FrE M σ (pIC τ a k v) := by sorry
theorem FrE.pL {M : List Nat} {σ τ : CsC} {a k : Nat} {v : Int64} (h : FrE M σ τ) (hk : M.elem k = true) : FrE M σ (pLC τ a k v) := by sorry
theorem FrE.pR {M : List Nat} {σ τ : CsC} {a k : Nat} {v : Option Nat} (h : FrE M σ τ) (hk : M.elem k = true) : FrE M σ (pRC τ a k v) := by sorry
theorem FrE.qI {M : List Nat} {σ τ : CsC} {a : Nat} {f : Nat → Int32} (h : FrE M σ τ) (hk : M.elem 900 = true) : FrE M σ (qIC τ a f) := by sorry
theorem FrE.qL {M : List Nat} {σ τ : CsC} {a : Nat} {f : Nat → Int64} (h : FrE M σ τ) (hk : M.elem 901 = true) : FrE M σ (qLC τ a f) := by sorry
theorem FrE.qR {M : List Nat} {σ τ : CsC} {a : Nat} {f : Nat → Option Nat} (h : FrE M σ τ) (hk : M.elem 902 = true) : FrE M σ (qRC τ a f) := by sorry
theorem FrE.nO {M : List Nat} {σ τ : CsC} {t N g : Nat} (h : FrE M σ τ) : FrE M σ (nOC τ t N g) := by sorry
theorem FrE.nA {M : List Nat} {σ τ : CsC} {t N g : Nat} (h : FrE M σ τ) : FrE M σ (nAC τ t N g) := by sorry
theorem we_c {σ τ : CsC} (h : WeC σ τ) : cnC τ = cnC σ := congrArg (fun z => z.1.1) h.1
theorem we_i {σ τ : CsC} (h : WeC σ τ) : fIC τ = fIC σ := by sorry
theorem we_l {σ τ : CsC} (h : WeC σ τ) : fLC τ = fLC σ := by sorry
theorem we_r {σ τ : CsC} (h : WeC σ τ) : fRC τ = fRC σ := by sorry
theorem we_ei {σ τ : CsC} (h : WeC σ τ) : eIC τ = eIC σ := by sorry
theorem we_el {σ τ : CsC} (h : WeC σ τ) : eLC τ = eLC σ := by sorry
theorem we_er {σ τ : CsC} (h : WeC σ τ) : eRC τ = eRC σ := by sorry
theorem FrE.we {M : List Nat} {σ τ υ : CsC} (h : FrE M σ τ) (g : WeC τ υ) : FrE M σ υ := by sorry
/-- an ERROR that is told stays told (field 217) -/
def MnE (b : Bool) (σ τ : CsC) : Prop := cnC σ ≤ cnC τ ∧ (b = true → ∀ a, a < cnC σ → ¬ fIC σ a 217 = 0 → ¬ fIC τ a 217 = 0)
theorem MnE.rf {b : Bool} {σ : CsC} : MnE b σ σ := ⟨Nat.le_refl _, fun _ _ _ h => h⟩
theorem MnE.tr {b : Bool} {σ τ υ : CsC} (h : MnE b σ τ) (g : MnE b τ υ) : MnE b σ υ := by sorry
theorem MnE.mo {b c : Bool} {σ τ : CsC} (h : MnE c σ τ) (hs : (!b || c) = true) : MnE b σ τ := ⟨h.1, fun e => h.2 (by rw [e] at hs; exact hs)⟩
theorem mn_ne {b : Bool} {k : Nat} (hk : (!(Nat.beq k 217) || !b) = true) (e : b = true) : 217 ≠ k := fun q => by
  rw [← q, e] at hk
  cases hk
theorem MnE.pI {b : Bool} {σ τ : CsC} {a k : Nat} {v : Int32} (h : MnE b σ τ) (hk : (!(Nat.beq k 217) || !b) = true) : MnE b σ (pIC τ a k v) := by sorry
theorem MnE.pL {b : Bool} {σ τ : CsC} {a k : Nat} {v : Int64} {p : Prop} (h : MnE b σ τ) (_ : p) : MnE b σ (pLC τ a k v) := ⟨h.1, h.2⟩
theorem MnE.pR {b : Bool} {σ τ : CsC} {a k : Nat} {v : Option Nat} {p : Prop} (h : MnE b σ τ) (_ : p) : MnE b σ (pRC τ a k v) := ⟨h.1, h.2⟩
theorem MnE.qI {b : Bool} {σ τ : CsC} {a : Nat} {f : Nat → Int32} {p : Prop} (h : MnE b σ τ) (_ : p) : MnE b σ (qIC τ a f) := ⟨h.1, h.2⟩
theorem MnE.qL {b : Bool} {σ τ : CsC} {a : Nat} {f : Nat → Int64} {p : Prop} (h : MnE b σ τ) (_ : p) : MnE b σ (qLC τ a f) := ⟨h.1, h.2⟩
theorem MnE.qR {b : Bool} {σ τ : CsC} {a : Nat} {f : Nat → Option Nat} {p : Prop} (h : MnE b σ τ) (_ : p) : MnE b σ (qRC τ a f) := ⟨h.1, h.2⟩
theorem MnE.nO {b : Bool} {σ τ : CsC} {t N g : Nat} (h : MnE b σ τ) : MnE b σ (nOC τ t N g) := by sorry
theorem MnE.nA {b : Bool} {σ τ : CsC} {t N g : Nat} (h : MnE b σ τ) : MnE b σ (nAC τ t N g) := ⟨Nat.le_trans h.1 (Nat.le_succ (cnC τ)), h.2⟩
theorem MnE.we {b : Bool} {σ τ υ : CsC} (h : MnE b σ τ) (g : WeC τ υ) : MnE b σ υ := by sorry
def okM (b : Bool) (x : RI) : Bool := match x.1 with
  | .putfield _ => !(Nat.beq x.2.2.2.1 217) || !b
  | _ => true
/-- what an instruction writes is in M -/
def okE (M : List Nat) (x : RI) : Bool := match x.1 with
  | .putfield _ => M.elem x.2.2.2.1
  | .iastore => M.elem 900
  | .bastore => M.elem 900
  | .lastore => M.elem 901
  | .aastore => M.elem 902
  | .invokestatic _ => !(Nat.beq x.2.2.2.1 9997) || M.elem 902
  | _ => true
theorem cst_fr {M : List Nat} {σ0 : CsC} {c1 : CcC} {K1 K k1 k : CkC} {Z1 Z : Option AvC → CsC → Prop} {x : RI} {pc : Nat} {ls : ClC} {st : List AvC} {σ : CsC} (hx : okE M x = true) (hf : FrE M σ0 σ) (hc : ∀ {μ : Nat} {P : CpC} {Q : CqC}, ctC c1 μ = some (P, Q) → ∀ As σ w τ, Q As σ w τ → FrE M σ τ) (hK : ∀ t r, K1 t ls r σ → K t ls r σ) (hZ : ∀ w τ, FrE M σ0 τ → Z1 w τ → Z w τ) (hk : ∀ pc ls st σ, FrE M σ0 σ → k1 pc ls st σ → k pc ls st σ) (h1 : cstC c1 K1 Z1 x pc ls st σ k1) : cstC c1 K Z x pc ls st σ k := by sorry
theorem cst_mn {b0 : Bool} {σ0 : CsC} {c1 : CcC} {K1 K k1 k : CkC} {Z1 Z : Option AvC → CsC → Prop} {x : RI} {pc : Nat} {ls : ClC} {st : List AvC} {σ : CsC} (hx : okM b0 x = true) (hf : MnE b0 σ0 σ) (hc : ∀ {μ : Nat} {P : CpC} {Q : CqC}, ctC c1 μ = some (P, Q) → ∀ As σ w τ, Q As σ w τ → MnE b0 σ τ) (hK : ∀ t r, K1 t ls r σ → K t ls r σ) (hZ : ∀ w τ, MnE b0 σ0 τ → Z1 w τ → Z w τ) (hk : ∀ pc ls st σ, MnE b0 σ0 σ → k1 pc ls st σ → k pc ls st σ) (h1 : cstC c1 K1 Z1 x pc ls st σ k1) : cstC c1 K Z x pc ls st σ k := by sorry
/-- who is called tells less -/
def MoQ (c1 : CcC) (ct : UcC) (c1' : CcC) (ct' : UcC) : Prop := ∀ μ P' Q', ctC c1' μ = some (P', Q') → ∃ P Q, ctC c1 μ = some (P, Q) ∧ ∀ As σ w τ, Q' As σ w τ → uqC ct' μ As σ w τ → Q As σ w τ ∧ uqC ct μ As σ w τ
theorem ucs_mo {c1 c1' : CcC} {ct ct' : UcC} {K K' k k' : CkC} {Z Z' : Option AvC → CsC → Prop} {x : RI} {pc : Nat} {ls : ClC} {st : List AvC} {σ : CsC} (hc : MoQ c1 ct c1' ct') (hK : ∀ t r, K t ls r σ → K' t ls r σ) (hZ : ∀ w τ, Z w τ → Z' w τ) (hk : ∀ pc ls st σ, k pc ls st σ → k' pc ls st σ) (h : ucsC c1 ct K Z x pc ls st σ k) : ucsC c1' ct' K' Z' x pc ls st σ k' := by sorry
theorem cwp_fr {M : List Nat} {σ0 : CsC} {c1 : CcC} {K1 K : CkC} {Z1 Z : Option AvC → CsC → Prop} (hc : ∀ {μ : Nat} {P : CpC} {Q : CqC}, ctC c1 μ = some (P, Q) → ∀ As σ w τ, Q As σ w τ → FrE M σ τ) (hK : ∀ pc ls st σ, FrE M σ0 σ → K1 pc ls st σ → K pc ls st σ) (hZ : ∀ w τ, FrE M σ0 τ → Z1 w τ → Z w τ) : ∀ (is : List RI) (pc : Nat) (ls : ClC) (st : List AvC) (σ : CsC), is.all (okE M) = true → FrE M σ0 σ → cwpC c1 K1 Z1 is pc ls st σ → cwpC c1 K Z is pc ls st σ := by sorry
theorem cwp_mn {b0 : Bool} {σ0 : CsC} {c1 : CcC} {K1 K : CkC} {Z1 Z : Option AvC → CsC → Prop} (hc : ∀ {μ : Nat} {P : CpC} {Q : CqC}, ctC c1 μ = some (P, Q) → ∀ As σ w τ, Q As σ w τ → MnE b0 σ τ) (hK : ∀ pc ls st σ, MnE b0 σ0 σ → K1 pc ls st σ → K pc ls st σ) (hZ : ∀ w τ, MnE b0 σ0 τ → Z1 w τ → Z w τ) : ∀ (is : List RI) (pc : Nat) (ls : ClC) (st : List AvC) (σ : CsC), is.all (okM b0) = true → MnE b0 σ0 σ → cwpC c1 K1 Z1 is pc ls st σ → cwpC c1 K Z is pc ls st σ := by sorry
theorem ct_mem {c : CcC} {μ : Nat} {z : CpC × CqC} : ctC c μ = some z → (μ, z) ∈ c := by sorry
/-- a total contract, and what stays -/
theorem TbC.fr {M : List Nat} {bs : RB} {c1 : CcC} {P : CpC} {Q Q' : CqC} (b : TbC bs c1 P Q) (ho : bs.all (fun b => b.2.all (okE M)) = true) (hc : ∀ q ∈ c1, ∀ As σ w τ, q.2.2 As σ w τ → FrE M σ τ) (hq : ∀ As σ w τ, P As σ → GrC σ σ → Q As σ w τ → FrE M σ τ → Q' As σ w τ) : TbC bs c1 P Q' := by sorry
theorem TbC.mn {b : Bool} {bs : RB} {c1 : CcC} {P : CpC} {Q Q' : CqC} (b1 : TbC bs c1 P Q) (ho : bs.all (fun q => q.2.all (okM b)) = true) (hc : ∀ q ∈ c1, ∀ As σ w τ, q.2.2 As σ w τ → MnE b σ τ) (hq : ∀ As σ w τ, P As σ → GrC σ σ → Q As σ w τ → MnE b σ τ → Q' As σ w τ) : TbC bs c1 P Q' := by sorry
/-- fewer outcomes of what is called -/
theorem ucwp_mo {c1 c1' : CcC} {ct ct' : UcC} {K K' : CkC} {Z Z' : Option AvC → CsC → Prop} (hc : MoQ c1 ct c1' ct') (hK : ∀ pc ls st σ, K pc ls st σ → K' pc ls st σ) (hZ : ∀ w τ, Z w τ → Z' w τ) : ∀ (is : List RI) (pc : Nat) (ls : ClC) (st : List AvC) (σ : CsC), ucwp c1 ct K Z is pc ls st σ → ucwp c1' ct' K' Z' is pc ls st σ := by sorry
theorem ucgo_mo {bs : RB} {c1 c1' : CcC} {ct ct' : UcC} {K K' : CkC} {Z Z' : Option AvC → CsC → Prop} (hc : MoQ c1 ct c1' ct') (hK : ∀ pc ls st σ, K pc ls st σ → K' pc ls st σ) (hZ : ∀ w τ, Z w τ → Z' w τ) {pc : Nat} {ls : ClC} {st : List AvC} {σ : CsC} (h : ucgo bs c1 ct K Z pc ls st σ) : ucgo bs c1' ct' K' Z' pc ls st σ := by sorry
theorem uKm_mo {bs : RB} {c1 c1' : CcC} {ct ct' : UcC} {Z Z' : Option AvC → CsC → Prop} (hc : MoQ c1 ct c1' ct') (hZ : ∀ w τ, Z w τ → Z' w τ) : ∀ (n pc : Nat) (ls : ClC) (st : List AvC) (σ : CsC), uKm bs c1 ct Z n pc ls st σ → uKm bs c1' ct' Z' n pc ls st σ := by sorry
theorem MoQ.rf {c1 : CcC} {ct : UcC} : MoQ c1 ct c1 ct := fun μ P Q h => ⟨P, Q, h, fun _ _ _ _ a b => ⟨a, b⟩⟩
theorem uKm_s {bs : RB} {c1 : CcC} {ct : UcC} {Z : Option AvC → CsC → Prop} : ∀ (n pc : Nat) (ls : ClC) (st : List AvC) (σ : CsC), uKm bs c1 ct Z (n + 1) pc ls st σ → uKm bs c1 ct Z n pc ls st σ := by sorry
theorem uKm_le {bs : RB} {c1 : CcC} {ct : UcC} {Z : Option AvC → CsC → Prop} {pc : Nat} {ls : ClC} {st : List AvC} {σ : CsC} {m n : Nat} (h : m ≤ n) : uKm bs c1 ct Z n pc ls st σ → uKm bs c1 ct Z m pc ls st σ := by sorry
/-- no premise, no promise -/
def tr1C (μ : Nat) : Nat × CpC × CqC := (μ, fun _ _ => True, fun _ _ _ _ => True)
theorem tr_ct {cs : List Nat} {μ : Nat} {z : CpC × CqC} : ctC (cs.map tr1C) μ = some z → μ ∈ cs := by sorry
theorem ct_tr {cs : List Nat} {μ : Nat} : μ ∈ cs → ctC (cs.map tr1C) μ = some (fun _ _ => True, fun _ _ _ _ => True) := by sorry
/-- a run of a method: fewer than L calls within one another -/
def EvF : Nat → Nat → CqC
  | 0, _ => fun _ _ _ _ => False
  | L + 1, μ => fun As σ w τ => (uqC quL μ As σ w τ ∧ cnC σ ≤ 1000000 ∧ MnE (mnF μ) σ τ) ∧ FrE (mgF μ) σ τ ∧ uqC quM μ As σ w τ ∧ match blF μ with
    | none => True
    | some (bs, cs) => ∀ Z : Option AvC → CsC → Prop, (∀ m, uKm bs (cs.map tr1C) (cs.map (fun c => (c, EvF L c))) Z m 0 (agC 0 As) [] σ) → Z w τ
abbrev EvQ (L μ : Nat) (Q : CqC) : CqC := fun As σ w τ => Q As σ w τ ∧ EvF L μ As σ w τ
theorem uq_map {f : Nat → CqC} {μ : Nat} : ∀ {cs : List Nat}, μ ∈ cs → uqC (cs.map (fun c => (c, f c))) μ = f μ := by sorry
theorem EvF.s : ∀ {L μ : Nat} {As : List AvC} {σ : CsC} {w : Option AvC} {τ : CsC}, EvF L μ As σ w τ → EvF (L + 1) μ As σ w τ := by sorry
theorem EvF.le {L L' μ : Nat} {As : List AvC} {σ : CsC} {w : Option AvC} {τ : CsC} (h : EvF L μ As σ w τ) (hl : L ≤ L') : EvF L' μ As σ w τ := by sorry
theorem CMetC.mq {l : Launch} {lev μ : Nat} {P : CpC} {Q Q' : CqC} (h : CMetC l lev μ P Q) (hQ : ∀ As σ w τ, P As σ → GrC σ σ → Q As σ w τ → Q' As σ w τ) : CMetC l lev μ P Q' := by sorry
theorem CMetC.up {l : Launch} {lev μ L L' : Nat} {P : CpC} {Q : CqC} (h : CMetC l lev μ P (EvQ L μ Q)) (hl : L ≤ L') : CMetC l lev μ P (EvQ L' μ Q) := h.mq (fun As σ w τ _ _ q => ⟨q.1, q.2.le hl⟩)
def subE (M : List Nat) (μ : Nat) : Bool := (mgF μ).all (fun k => M.elem k)
theorem EvF.fr {M : List Nat} {L μ : Nat} {As : List AvC} {σ : CsC} {w : Option AvC} {τ : CsC} (h : EvF L μ As σ w τ) (hs : subE M μ = true) : FrE M σ τ := by sorry
theorem fr_no {σ τ : CsC} (h : cnC σ ≤ cnC τ) : FrE [999] σ τ := ⟨h, fun z => by cases z⟩
theorem EvF.q {L μ : Nat} {As : List AvC} {σ : CsC} {w : Option AvC} {τ : CsC} (h : EvF L μ As σ w τ) : uqC quL μ As σ w τ ∧ cnC σ ≤ 1000000 ∧ MnE (mnF μ) σ τ := by sorry
theorem EvF.m {L μ : Nat} {As : List AvC} {σ : CsC} {w : Option AvC} {τ : CsC} (h : EvF L μ As σ w τ) : uqC quM μ As σ w τ := by sorry
theorem uo_mem {c2 : UcC} {μ : Nat} {Q : CqC} : uoC c2 μ = some Q → (μ, Q) ∈ c2 := by sorry
theorem uo_map {f : Nat → CqC} {μ : Nat} : ∀ {cs : List Nat}, μ ∈ cs → uoC (cs.map (fun c => (c, f c))) μ = some (f μ) := by sorry
/-- out of a total contract: its runs -/
theorem TbC.ev {bs : RB} {c1 : CcC} {P : CpC} {Q : CqC} {L μ : Nat} {cs M : List Nat} (b : TbC bs c1 P Q) (hT : blF μ = some (bs, cs)) (hg : mgF μ = M) (hk : (c1.map (fun q => q.1)).all (fun m => cs.elem m) = true) (ho : bs.all (fun b => b.2.all (okE M)) = true) (hs : cs.all (subE M) = true) (hq : ∀ As σ w τ, P As σ → Q As σ w τ → uqC quL μ As σ w τ) (hqm : ∀ As σ w τ, P As σ → Q As σ w τ → uqC quM μ As σ w τ) (hmn : (bs.all (fun b => b.2.all (okM (mnF μ))) = true ∧ cs.all (fun c => !mnF μ || mnF c) = true) ∨ ∀ As σ w τ, P As σ → Q As σ w τ → MnE (mnF μ) σ τ) : TbC bs (uc2C c1 (cs.map (fun c => (c, EvF L c)))) P (EvQ (L + 1) μ Q) := by sorry
/-- of a method that is called: what its total contract tells, what it leaves alone -/
abbrev TrP : CpC := fun _ _ => True
abbrev EqC (μ : Nat) : CqC := fun As σ w τ => (uqC quL μ As σ w τ ∧ cnC σ ≤ 1000000 ∧ MnE (mnF μ) σ τ) ∧ FrE (mgF μ) σ τ
def eq1C (μ : Nat) : Nat × CpC × CqC := (μ, TrP, EqC μ)
theorem ct_eq {cs : List Nat} {μ : Nat} : μ ∈ cs → ctC (cs.map eq1C) μ = some (TrP, EqC μ) := by sorry
theorem EvF.eq {L μ : Nat} {As : List AvC} {σ : CsC} {w : Option AvC} {τ : CsC} (h : EvF L μ As σ w τ) : EqC μ As σ w τ := by sorry
/-- what a run does, by a partial walk -/
theorem EvF.us {bs : RB} {ct : UcC} {P : CpC} {Q : CqC} {L μ : Nat} {cs : List Nat} {As : List AvC} {σ : CsC} {w : Option AvC} {τ : CsC} (hb : PbC bs (cs.map eq1C) ct (fun As σ => P As σ ∧ cnC σ ≤ 1000000 ∧ ∃ w τ, uqC quL μ As σ w τ) Q) (hT : blF μ = some (bs, cs)) (hu : ∀ m ∈ cs, ∀ As σ w τ, EvF L m As σ w τ → uqC ct m As σ w τ) (h : EvF (L + 1) μ As σ w τ) (hP : P As σ) : Q As σ w τ := by sorry
